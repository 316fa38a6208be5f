/-! THE CELLS AS NUMBERS: what the cells at the head of the loop are (their kinds never change), and what they hold, told by functions -/
def ev_shs : List (Nat × Nat × FieldType × Nat × Nat) := [(0, 12, .int, 0, 0), (0, 10, .int, 0, 0), (1, 160, .int, 0, 0), (0, 7, .int, 0, 0), (3, 26, .object "MendBench$Text", 169, 2), (1, 26, .boolean, 0, 0), (0, 1, .int, 0, 0), (2, 128, .long, 0, 0), (2, 128, .long, 0, 0), (2, 128, .long, 0, 0), (2, 128, .long, 0, 0), (1, 128, .boolean, 0, 0),
  (1, 128, .boolean, 0, 0), (1, 128, .int, 0, 0), (3, 152, .object "MendBench$Open", 17, 1), (4, 28, .object "MendBench$Text", 0, 0), (1, 28, .int, 0, 0), (0, 4, .int, 0, 0), (0, 4, .int, 0, 0), (0, 4, .int, 0, 0), (0, 4, .int, 0, 0), (0, 4, .int, 0, 0), (0, 4, .int, 0, 0), (0, 4, .int, 0, 0),
  (0, 4, .int, 0, 0), (0, 4, .int, 0, 0), (0, 4, .int, 0, 0), (0, 4, .int, 0, 0), (0, 4, .int, 0, 0), (0, 4, .int, 0, 0), (0, 4, .int, 0, 0), (0, 4, .int, 0, 0), (0, 4, .int, 0, 0), (0, 4, .int, 0, 0), (0, 4, .int, 0, 0), (0, 4, .int, 0, 0),
  (0, 4, .int, 0, 0), (0, 4, .int, 0, 0), (0, 4, .int, 0, 0), (0, 4, .int, 0, 0), (0, 4, .int, 0, 0), (0, 4, .int, 0, 0), (0, 4, .int, 0, 0), (0, 4, .int, 0, 0), (0, 4, .int, 0, 0), (0, 4, .int, 0, 0), (0, 4, .int, 0, 0), (0, 4, .int, 0, 0),
  (0, 4, .int, 0, 0), (0, 4, .int, 0, 0), (0, 4, .int, 0, 0), (0, 4, .int, 0, 0), (0, 4, .int, 0, 0), (0, 4, .int, 0, 0), (0, 4, .int, 0, 0), (0, 4, .int, 0, 0), (0, 4, .int, 0, 0), (0, 4, .int, 0, 0), (0, 4, .int, 0, 0), (0, 4, .int, 0, 0),
  (0, 4, .int, 0, 0), (0, 4, .int, 0, 0), (0, 4, .int, 0, 0), (0, 4, .int, 0, 0), (0, 4, .int, 0, 0), (0, 4, .int, 0, 0), (0, 4, .int, 0, 0), (0, 4, .int, 0, 0), (0, 4, .int, 0, 0), (0, 4, .int, 0, 0), (0, 4, .int, 0, 0), (0, 4, .int, 0, 0),
  (0, 4, .int, 0, 0), (0, 4, .int, 0, 0), (0, 4, .int, 0, 0), (0, 4, .int, 0, 0), (0, 4, .int, 0, 0), (0, 4, .int, 0, 0), (0, 4, .int, 0, 0), (0, 4, .int, 0, 0), (0, 4, .int, 0, 0), (0, 4, .int, 0, 0), (0, 4, .int, 0, 0), (0, 4, .int, 0, 0),
  (0, 4, .int, 0, 0), (0, 4, .int, 0, 0), (0, 4, .int, 0, 0), (0, 4, .int, 0, 0), (0, 4, .int, 0, 0), (0, 4, .int, 0, 0), (0, 4, .int, 0, 0), (0, 4, .int, 0, 0), (0, 4, .int, 0, 0), (0, 4, .int, 0, 0), (0, 4, .int, 0, 0), (0, 4, .int, 0, 0),
  (0, 4, .int, 0, 0), (0, 4, .int, 0, 0), (0, 4, .int, 0, 0), (0, 4, .int, 0, 0), (0, 4, .int, 0, 0), (0, 4, .int, 0, 0), (0, 4, .int, 0, 0), (0, 4, .int, 0, 0), (0, 4, .int, 0, 0), (0, 4, .int, 0, 0), (0, 4, .int, 0, 0), (0, 4, .int, 0, 0),
  (0, 4, .int, 0, 0), (0, 4, .int, 0, 0), (0, 4, .int, 0, 0), (0, 4, .int, 0, 0), (0, 4, .int, 0, 0), (0, 4, .int, 0, 0), (0, 4, .int, 0, 0), (0, 4, .int, 0, 0), (0, 4, .int, 0, 0), (0, 4, .int, 0, 0), (0, 4, .int, 0, 0), (0, 4, .int, 0, 0),
  (0, 4, .int, 0, 0), (0, 4, .int, 0, 0), (0, 4, .int, 0, 0), (0, 4, .int, 0, 0), (0, 4, .int, 0, 0), (0, 4, .int, 0, 0), (0, 4, .int, 0, 0), (0, 4, .int, 0, 0), (0, 4, .int, 0, 0), (0, 4, .int, 0, 0), (0, 4, .int, 0, 0), (0, 4, .int, 0, 0),
  (0, 4, .int, 0, 0), (0, 4, .int, 0, 0), (0, 4, .int, 0, 0), (0, 4, .int, 0, 0), (0, 4, .int, 0, 0), (0, 4, .int, 0, 0), (0, 4, .int, 0, 0), (0, 4, .int, 0, 0), (0, 4, .int, 0, 0), (0, 4, .int, 0, 0), (0, 4, .int, 0, 0), (0, 4, .int, 0, 0),
  (0, 4, .int, 0, 0), (0, 4, .int, 0, 0), (0, 4, .int, 0, 0), (0, 4, .int, 0, 0), (0, 4, .int, 0, 0), (0, 4, .int, 0, 0), (0, 4, .int, 0, 0), (0, 4, .int, 0, 0), (0, 4, .int, 0, 0), (0, 4, .int, 0, 0), (0, 4, .int, 0, 0), (0, 4, .int, 0, 0),
  (0, 4, .int, 0, 0), (0, 4, .int, 0, 0), (0, 4, .int, 0, 0), (0, 4, .int, 0, 0), (0, 4, .int, 0, 0), (0, 4, .int, 0, 0), (0, 4, .int, 0, 0), (0, 4, .int, 0, 0), (0, 4, .int, 0, 0), (0, 4, .int, 0, 0), (0, 4, .int, 0, 0), (0, 4, .int, 0, 0),
  (0, 4, .int, 0, 0), (0, 10, .int, 0, 0), (1, 160, .int, 0, 0), (0, 10, .int, 0, 0), (1, 160, .int, 0, 0), (0, 10, .int, 0, 0), (1, 160, .int, 0, 0), (0, 10, .int, 0, 0), (1, 160, .int, 0, 0), (0, 10, .int, 0, 0), (1, 160, .int, 0, 0), (0, 10, .int, 0, 0),
  (1, 160, .int, 0, 0), (0, 10, .int, 0, 0), (1, 160, .int, 0, 0), (0, 10, .int, 0, 0), (1, 160, .int, 0, 0), (0, 10, .int, 0, 0), (1, 160, .int, 0, 0), (0, 10, .int, 0, 0), (1, 160, .int, 0, 0), (0, 10, .int, 0, 0), (1, 160, .int, 0, 0), (0, 10, .int, 0, 0),
  (1, 160, .int, 0, 0), (0, 10, .int, 0, 0), (1, 160, .int, 0, 0), (0, 10, .int, 0, 0), (1, 160, .int, 0, 0), (0, 10, .int, 0, 0), (1, 160, .int, 0, 0), (0, 10, .int, 0, 0), (1, 160, .int, 0, 0), (0, 10, .int, 0, 0), (1, 160, .int, 0, 0), (0, 10, .int, 0, 0),
  (1, 160, .int, 0, 0), (0, 10, .int, 0, 0), (1, 160, .int, 0, 0), (0, 10, .int, 0, 0), (1, 160, .int, 0, 0), (0, 10, .int, 0, 0), (1, 160, .int, 0, 0), (0, 10, .int, 0, 0), (1, 160, .int, 0, 0), (0, 10, .int, 0, 0), (1, 160, .int, 0, 0), (0, 10, .int, 0, 0),
  (1, 160, .int, 0, 0), (0, 10, .int, 0, 0), (1, 160, .int, 0, 0), (0, 10, .int, 0, 0), (1, 160, .int, 0, 0), (0, 2, .int, 0, 0), (1, 400, .int, 0, 0), (1, 400, .int, 0, 0), (2, 800, .long, 0, 0), (2, 800, .long, 0, 0), (2, 800, .long, 0, 0), (2, 800, .long, 0, 0),
  (1, 400, .int, 0, 0), (1, 400, .boolean, 0, 0), (0, 10, .int, 0, 0), (1, 160, .int, 0, 0), (0, 5, .int, 0, 0), (1, 400, .int, 0, 0), (1, 400, .int, 0, 0), (1, 400, .int, 0, 0), (1, 400, .int, 0, 0), (1, 400, .int, 0, 0), (1, 400, .int, 0, 0), (1, 400, .int, 0, 0),
  (2, 400, .long, 0, 0), (2, 400, .long, 0, 0), (1, 10, .int, 0, 0), (1, 26, .int, 0, 0), (0, 6, .int, 0, 0), (1, 208, .int, 0, 0), (1, 208, .int, 0, 0), (2, 208, .long, 0, 0), (2, 208, .long, 0, 0), (1, 208, .boolean, 0, 0), (0, 10, .int, 0, 0), (1, 160, .int, 0, 0),
  (3, 12, .object "MendBench$Pattern", 313, 20), (3, 8, .object "MendBench$Text", 553, 2), (0, 0, .int, 0, 0), (3, 3, .object "MendBench$Text", 263, 2), (1, 12, .int, 0, 0), (1, 12, .boolean, 0, 0), (1, 12, .int, 0, 0), (4, 512, .array .int, 0, 0), (4, 1024, .array .byte, 0, 0), (1, 1024, .int, 0, 0), (1, 160, .int, 0, 0), (0, 10, .int, 0, 0),
  (1, 160, .int, 0, 0), (0, 10, .int, 0, 0), (1, 160, .int, 0, 0), (0, 10, .int, 0, 0), (1, 160, .int, 0, 0), (0, 3, .int, 0, 0), (0, 10, .int, 0, 0), (1, 160, .int, 0, 0), (0, 10, .int, 0, 0), (1, 160, .int, 0, 0), (1, 82, .int, 0, 0), (1, 82, .int, 0, 0),
  (1, 82, .int, 0, 0), (1, 820, .int, 0, 0), (1, 820, .int, 0, 0), (1, 820, .int, 0, 0), (1, 800, .int, 0, 0), (0, 8, .int, 0, 0), (1, 76072, .int, 0, 0), (1, 6012, .int, 0, 0), (0, 11, .int, 0, 0), (1, 208, .int, 0, 0), (1, 208, .int, 0, 0), (1, 208, .int, 0, 0),
  (1, 832, .int, 0, 0), (1, 832, .int, 0, 0), (1, 20, .int, 0, 0), (1, 20, .int, 0, 0), (1, 4160, .int, 0, 0), (1, 4160, .int, 0, 0), (0, 11, .int, 0, 0), (1, 208, .int, 0, 0), (1, 208, .int, 0, 0), (1, 208, .int, 0, 0), (1, 832, .int, 0, 0), (1, 832, .int, 0, 0),
  (1, 1, .int, 0, 0), (1, 1, .int, 0, 0), (1, 208, .int, 0, 0), (1, 208, .int, 0, 0), (3, 6, .array .int, 305, 1), (1, 30, .int, 0, 0), (1, 30, .int, 0, 0), (1, 30, .int, 0, 0), (1, 30, .int, 0, 0), (1, 30, .int, 0, 0), (1, 30, .int, 0, 0), (1, 6, .int, 0, 0),
  (3, 4, .object "MendBench$Stream", 569, 13), (0, 5, .int, 0, 0), (1, 400, .int, 0, 0), (1, 400, .int, 0, 0), (1, 400, .int, 0, 0), (1, 400, .int, 0, 0), (1, 400, .int, 0, 0), (1, 400, .int, 0, 0), (1, 400, .int, 0, 0), (2, 400, .long, 0, 0), (2, 400, .long, 0, 0), (1, 10, .int, 0, 0),
  (1, 26, .int, 0, 0), (0, 6, .int, 0, 0), (1, 208, .int, 0, 0), (1, 208, .int, 0, 0), (2, 208, .long, 0, 0), (2, 208, .long, 0, 0), (1, 208, .boolean, 0, 0), (0, 10, .int, 0, 0), (1, 160, .int, 0, 0), (0, 5, .int, 0, 0), (1, 400, .int, 0, 0), (1, 400, .int, 0, 0),
  (1, 400, .int, 0, 0), (1, 400, .int, 0, 0), (1, 400, .int, 0, 0), (1, 400, .int, 0, 0), (1, 400, .int, 0, 0), (2, 400, .long, 0, 0), (2, 400, .long, 0, 0), (1, 10, .int, 0, 0), (1, 26, .int, 0, 0), (0, 6, .int, 0, 0), (1, 208, .int, 0, 0), (1, 208, .int, 0, 0),
  (2, 208, .long, 0, 0), (2, 208, .long, 0, 0), (1, 208, .boolean, 0, 0), (0, 10, .int, 0, 0), (1, 160, .int, 0, 0), (0, 5, .int, 0, 0), (1, 400, .int, 0, 0), (1, 400, .int, 0, 0), (1, 400, .int, 0, 0), (1, 400, .int, 0, 0), (1, 400, .int, 0, 0), (1, 400, .int, 0, 0),
  (1, 400, .int, 0, 0), (2, 400, .long, 0, 0), (2, 400, .long, 0, 0), (1, 10, .int, 0, 0), (1, 26, .int, 0, 0), (0, 6, .int, 0, 0), (1, 208, .int, 0, 0), (1, 208, .int, 0, 0), (2, 208, .long, 0, 0), (2, 208, .long, 0, 0), (1, 208, .boolean, 0, 0), (0, 10, .int, 0, 0),
  (1, 160, .int, 0, 0), (0, 5, .int, 0, 0), (1, 400, .int, 0, 0), (1, 400, .int, 0, 0), (1, 400, .int, 0, 0), (1, 400, .int, 0, 0), (1, 400, .int, 0, 0), (1, 400, .int, 0, 0), (1, 400, .int, 0, 0), (2, 400, .long, 0, 0), (2, 400, .long, 0, 0), (1, 10, .int, 0, 0),
  (1, 26, .int, 0, 0), (0, 6, .int, 0, 0), (1, 208, .int, 0, 0), (1, 208, .int, 0, 0), (2, 208, .long, 0, 0), (2, 208, .long, 0, 0), (1, 208, .boolean, 0, 0), (0, 10, .int, 0, 0), (1, 160, .int, 0, 0), (0, 5, .int, 0, 0), (1, 400, .int, 0, 0), (1, 400, .int, 0, 0),
  (1, 400, .int, 0, 0), (1, 400, .int, 0, 0), (1, 400, .int, 0, 0), (1, 400, .int, 0, 0), (1, 400, .int, 0, 0), (2, 400, .long, 0, 0), (2, 400, .long, 0, 0), (1, 10, .int, 0, 0), (1, 26, .int, 0, 0), (0, 6, .int, 0, 0), (1, 208, .int, 0, 0), (1, 208, .int, 0, 0),
  (2, 208, .long, 0, 0), (2, 208, .long, 0, 0), (1, 208, .boolean, 0, 0), (0, 10, .int, 0, 0), (1, 160, .int, 0, 0), (0, 5, .int, 0, 0), (1, 400, .int, 0, 0), (1, 400, .int, 0, 0), (1, 400, .int, 0, 0), (1, 400, .int, 0, 0), (1, 400, .int, 0, 0), (1, 400, .int, 0, 0),
  (1, 400, .int, 0, 0), (2, 400, .long, 0, 0), (2, 400, .long, 0, 0), (1, 10, .int, 0, 0), (1, 26, .int, 0, 0), (0, 6, .int, 0, 0), (1, 208, .int, 0, 0), (1, 208, .int, 0, 0), (2, 208, .long, 0, 0), (2, 208, .long, 0, 0), (1, 208, .boolean, 0, 0), (0, 10, .int, 0, 0),
  (1, 160, .int, 0, 0), (0, 5, .int, 0, 0), (1, 400, .int, 0, 0), (1, 400, .int, 0, 0), (1, 400, .int, 0, 0), (1, 400, .int, 0, 0), (1, 400, .int, 0, 0), (1, 400, .int, 0, 0), (1, 400, .int, 0, 0), (2, 400, .long, 0, 0), (2, 400, .long, 0, 0), (1, 10, .int, 0, 0),
  (1, 26, .int, 0, 0), (0, 6, .int, 0, 0), (1, 208, .int, 0, 0), (1, 208, .int, 0, 0), (2, 208, .long, 0, 0), (2, 208, .long, 0, 0), (1, 208, .boolean, 0, 0), (0, 10, .int, 0, 0), (1, 160, .int, 0, 0), (0, 5, .int, 0, 0), (1, 400, .int, 0, 0), (1, 400, .int, 0, 0),
  (1, 400, .int, 0, 0), (1, 400, .int, 0, 0), (1, 400, .int, 0, 0), (1, 400, .int, 0, 0), (1, 400, .int, 0, 0), (2, 400, .long, 0, 0), (2, 400, .long, 0, 0), (1, 10, .int, 0, 0), (1, 26, .int, 0, 0), (0, 6, .int, 0, 0), (1, 208, .int, 0, 0), (1, 208, .int, 0, 0),
  (2, 208, .long, 0, 0), (2, 208, .long, 0, 0), (1, 208, .boolean, 0, 0), (0, 10, .int, 0, 0), (1, 160, .int, 0, 0), (0, 5, .int, 0, 0), (1, 400, .int, 0, 0), (1, 400, .int, 0, 0), (1, 400, .int, 0, 0), (1, 400, .int, 0, 0), (1, 400, .int, 0, 0), (1, 400, .int, 0, 0),
  (1, 400, .int, 0, 0), (2, 400, .long, 0, 0), (2, 400, .long, 0, 0), (1, 10, .int, 0, 0), (1, 26, .int, 0, 0), (0, 6, .int, 0, 0), (1, 208, .int, 0, 0), (1, 208, .int, 0, 0), (2, 208, .long, 0, 0), (2, 208, .long, 0, 0), (1, 208, .boolean, 0, 0), (0, 10, .int, 0, 0),
  (1, 160, .int, 0, 0), (0, 5, .int, 0, 0), (1, 400, .int, 0, 0), (1, 400, .int, 0, 0), (1, 400, .int, 0, 0), (1, 400, .int, 0, 0), (1, 400, .int, 0, 0), (1, 400, .int, 0, 0), (1, 400, .int, 0, 0), (2, 400, .long, 0, 0), (2, 400, .long, 0, 0), (1, 10, .int, 0, 0),
  (1, 26, .int, 0, 0), (0, 6, .int, 0, 0), (1, 208, .int, 0, 0), (1, 208, .int, 0, 0), (2, 208, .long, 0, 0), (2, 208, .long, 0, 0), (1, 208, .boolean, 0, 0), (0, 10, .int, 0, 0), (1, 160, .int, 0, 0), (0, 5, .int, 0, 0), (1, 400, .int, 0, 0), (1, 400, .int, 0, 0),
  (1, 400, .int, 0, 0), (1, 400, .int, 0, 0), (1, 400, .int, 0, 0), (1, 400, .int, 0, 0), (1, 400, .int, 0, 0), (2, 400, .long, 0, 0), (2, 400, .long, 0, 0), (1, 10, .int, 0, 0), (1, 26, .int, 0, 0), (0, 6, .int, 0, 0), (1, 208, .int, 0, 0), (1, 208, .int, 0, 0),
  (2, 208, .long, 0, 0), (2, 208, .long, 0, 0), (1, 208, .boolean, 0, 0), (0, 10, .int, 0, 0), (1, 160, .int, 0, 0), (0, 5, .int, 0, 0), (1, 400, .int, 0, 0), (1, 400, .int, 0, 0), (1, 400, .int, 0, 0), (1, 400, .int, 0, 0), (1, 400, .int, 0, 0), (1, 400, .int, 0, 0),
  (1, 400, .int, 0, 0), (2, 400, .long, 0, 0), (2, 400, .long, 0, 0), (1, 10, .int, 0, 0), (1, 26, .int, 0, 0), (0, 6, .int, 0, 0), (1, 208, .int, 0, 0), (1, 208, .int, 0, 0), (2, 208, .long, 0, 0), (2, 208, .long, 0, 0), (1, 208, .boolean, 0, 0), (0, 10, .int, 0, 0),
  (1, 160, .int, 0, 0), (0, 10, .int, 0, 0), (1, 160, .int, 0, 0), (0, 10, .int, 0, 0), (1, 160, .int, 0, 0), (0, 10, .int, 0, 0), (1, 160, .int, 0, 0), (0, 10, .int, 0, 0), (1, 160, .int, 0, 0), (0, 10, .int, 0, 0), (1, 160, .int, 0, 0), (0, 10, .int, 0, 0),
  (1, 160, .int, 0, 0), (0, 10, .int, 0, 0), (1, 160, .int, 0, 0), (0, 10, .int, 0, 0), (1, 160, .int, 0, 0), (0, 9, .int, 0, 0), (0, 10, .int, 0, 0), (1, 160, .int, 0, 0), (0, 11, .int, 0, 0), (1, 208, .int, 0, 0), (1, 208, .int, 0, 0), (1, 208, .int, 0, 0),
  (1, 832, .int, 0, 0), (1, 832, .int, 0, 0), (1, 1, .int, 0, 0), (1, 1, .int, 0, 0), (1, 208, .int, 0, 0), (1, 208, .int, 0, 0), (0, 9, .int, 0, 0), (0, 10, .int, 0, 0), (1, 160, .int, 0, 0), (0, 11, .int, 0, 0), (1, 208, .int, 0, 0), (1, 208, .int, 0, 0),
  (1, 208, .int, 0, 0), (1, 832, .int, 0, 0), (1, 832, .int, 0, 0), (1, 1, .int, 0, 0), (1, 1, .int, 0, 0), (1, 208, .int, 0, 0), (1, 208, .int, 0, 0), (0, 9, .int, 0, 0), (0, 10, .int, 0, 0), (1, 160, .int, 0, 0), (0, 11, .int, 0, 0), (1, 208, .int, 0, 0),
  (1, 208, .int, 0, 0), (1, 208, .int, 0, 0), (1, 832, .int, 0, 0), (1, 832, .int, 0, 0), (1, 1, .int, 0, 0), (1, 1, .int, 0, 0), (1, 208, .int, 0, 0), (1, 208, .int, 0, 0), (0, 9, .int, 0, 0), (0, 10, .int, 0, 0), (1, 160, .int, 0, 0), (0, 11, .int, 0, 0),
  (1, 208, .int, 0, 0), (1, 208, .int, 0, 0), (1, 208, .int, 0, 0), (1, 832, .int, 0, 0), (1, 832, .int, 0, 0), (1, 1, .int, 0, 0), (1, 1, .int, 0, 0), (1, 208, .int, 0, 0), (1, 208, .int, 0, 0), (0, 13, .int, 0, 0), (1, 120, .int, 0, 0), (1, 26, .int, 0, 0),
  (1, 3120, .int, 0, 0), (1, 4160, .int, 0, 0), (1, 4160, .int, 0, 0), (1, 4160, .int, 0, 0), (1, 4160, .int, 0, 0), (1, 4160, .int, 0, 0), (1, 4160, .int, 0, 0), (1, 4160, .int, 0, 0), (1, 4160, .int, 0, 0), (2, 4160, .long, 0, 0), (2, 4160, .long, 0, 0), (1, 13, .int, 0, 0),
  (1, 13, .int, 0, 0), (1, 130, .int, 0, 0), (1, 338, .int, 0, 0), (1, 13, .int, 0, 0), (1, 4160, .int, 0, 0), (1, 4160, .int, 0, 0), (1, 4160, .int, 0, 0), (1, 4160, .int, 0, 0), (1, 28, .int, 0, 0), (1, 28, .int, 0, 0), (1, 160, .int, 0, 0), (1, 160, .int, 0, 0),
  (1, 160, .int, 0, 0), (1, 160, .int, 0, 0), (1, 160, .boolean, 0, 0), (2, 128, .long, 0, 0), (2, 128, .long, 0, 0), (2, 128, .long, 0, 0), (2, 128, .long, 0, 0), (1, 128, .boolean, 0, 0), (1, 128, .boolean, 0, 0), (1, 128, .int, 0, 0), (1, 320, .boolean, 0, 0), (1, 320, .int, 0, 0),
  (1, 320, .int, 0, 0), (1, 322, .int, 0, 0), (1, 2520, .int, 0, 0), (1, 2520, .int, 0, 0), (1, 2520, .int, 0, 0), (1, 12, .int, 0, 0), (1, 1200, .int, 0, 0), (1, 1200, .int, 0, 0), (1, 1200, .int, 0, 0), (1, 17010, .boolean, 0, 0), (1, 40000, .int, 0, 0), (1, 40000, .int, 0, 0),
  (1, 20, .int, 0, 0), (1, 212, .boolean, 0, 0), (1, 420, .int, 0, 0), (1, 420, .int, 0, 0), (1, 420, .int, 0, 0), (1, 420, .int, 0, 0), (1, 400, .int, 0, 0), (1, 10, .int, 0, 0), (1, 10, .int, 0, 0), (1, 150000, .int, 0, 0), (1, 150000, .int, 0, 0), (1, 150000, .int, 0, 0),
  (1, 150000, .int, 0, 0), (1, 150000, .int, 0, 0), (1, 150000, .int, 0, 0), (1, 100000, .int, 0, 0), (1, 100000, .int, 0, 0), (1, 100000, .int, 0, 0), (1, 100000, .int, 0, 0), (1, 100000, .int, 0, 0), (1, 100000, .int, 0, 0), (1, 100000, .int, 0, 0), (1, 100000, .int, 0, 0), (1, 100000, .int, 0, 0),
  (1, 30000, .int, 0, 0), (1, 30000, .int, 0, 0), (1, 30000, .int, 0, 0), (1, 30000, .int, 0, 0), (1, 960, .int, 0, 0), (1, 8, .int, 0, 0), (1, 200, .int, 0, 0), (1, 102, .int, 0, 0), (1, 102, .int, 0, 0), (1, 102, .int, 0, 0), (1, 400, .int, 0, 0), (1, 3, .int, 0, 0),
  (1, 600, .int, 0, 0), (1, 12, .int, 0, 0), (1, 12, .int, 0, 0), (1, 12, .boolean, 0, 0), (1, 420000, .int, 0, 0), (1, 840000, .byte, 0, 0), (1, 2000, .int, 0, 0), (1, 2000, .int, 0, 0), (1, 7, .int, 0, 0), (1, 210, .int, 0, 0), (1, 4, .int, 0, 0), (1, 4, .boolean, 0, 0),
  (1, 4, .boolean, 0, 0), (1, 4, .int, 0, 0), (1, 320, .int, 0, 0), (2, 1, .long, 0, 0)]
def ev_fks : Nat → List (Nat × Nat)
  | 0 => [(2, 1), (2, 2), (2, 3), (2, 4), (0, 0), (2, 5), (2, 6), (2, 7), (2, 8), (0, 0), (0, 0), (0, 0), (0, 0), (0, 0), (0, 0)]
  | 1 => [(2, 1), (2, 2), (2, 3), (2, 4), (2, 5), (2, 6), (2, 7), (0, 0), (3, 0), (0, 0), (0, 0), (1, 0), (1, 0)]
  | 2 => [(2, 1), (2, 2), (2, 3), (2, 4), (2, 5), (2, 6), (2, 7), (2, 8), (2, 9), (3, 0)]
  | 3 => [(2, 1), (2, 3), (2, 5), (2, 6), (2, 7), (2, 8), (2, 9), (2, 10), (2, 11), (0, 0), (0, 0), (0, 0)]
  | 4 => [(0, 0), (0, 0), (0, 0), (0, 0), (0, 0), (0, 0), (0, 0), (0, 0), (0, 0)]
  | 5 => [(2, 1), (2, 2), (2, 3), (2, 4), (2, 5), (2, 6), (2, 7), (2, 8), (2, 9), (2, 10), (2, 11), (0, 0), (0, 0), (2, 12), (0, 0), (0, 0), (0, 0), (1, 0), (1, 0), (0, 0), (2, 18)]
  | 6 => [(2, 1), (2, 2), (2, 3), (2, 4), (2, 5), (0, 0)]
  | 7 => [(2, 1), (2, 2), (2, 3), (2, 11), (2, 12), (2, 13), (0, 0), (3, 0), (0, 0), (3, 0), (0, 0), (0, 0), (0, 0), (0, 0), (0, 0)]
  | 8 => [(3, 0), (3, 0), (0, 0), (0, 0), (0, 0), (0, 0), (2, 1), (0, 0), (2, 2), (0, 0), (0, 0), (0, 0), (0, 0), (0, 0), (0, 0)]
  | 9 => [(2, 1), (2, 3), (0, 0), (0, 0)]
  | 10 => [(2, 1), (0, 0)]
  | 11 => [(0, 0), (2, 6), (3, 0), (3, 0), (3, 0), (3, 0), (2, 3), (0, 0), (2, 4), (2, 5), (0, 0), (3, 0), (2, 7), (0, 0), (0, 0), (0, 0)]
  | 12 => [(2, 1), (2, 3), (2, 221), (2, 232), (2, 252), (0, 0), (2, 253), (0, 0), (2, 254), (2, 269), (2, 281), (2, 284), (2, 294), (2, 304), (2, 311), (0, 0), (0, 0), (2, 312), (0, 0)]
  | 13 => [(0, 0), (0, 0), (2, 1), (2, 2), (2, 3), (0, 0), (2, 4), (2, 5), (2, 6), (2, 7), (2, 8), (2, 9), (2, 10), (2, 11), (2, 12), (2, 13), (2, 14), (2, 15), (2, 16), (2, 17), (2, 18), (2, 19), (2, 20), (2, 21), (2, 22), (0, 0), (0, 0), (0, 0), (0, 0), (2, 23), (2, 24), (0, 0), (2, 25), (2, 26), (2, 27), (2, 28), (2, 29), (0, 0), (0, 0), (0, 0), (0, 0), (1, 0), (1, 0), (2, 30), (2, 31), (2, 32), (2, 33), (2, 34), (2, 35), (2, 36), (2, 37), (2, 38), (2, 39), (2, 40), (0, 0), (2, 41), (2, 42), (2, 43), (2, 44), (0, 0), (2, 45), (2, 46), (2, 47), (2, 48), (2, 49), (2, 50), (2, 51), (2, 52), (0, 0), (2, 53), (2, 54), (2, 55), (2, 56), (0, 0), (2, 57), (0, 0), (0, 0), (0, 0), (0, 0), (0, 0), (0, 0), (0, 0), (0, 0), (0, 0), (0, 0), (0, 0), (2, 58), (2, 59), (0, 0), (2, 60), (2, 61), (2, 62), (2, 63), (2, 64), (2, 65), (0, 0), (2, 66), (2, 67), (2, 68), (2, 69), (2, 70), (2, 71), (2, 72), (2, 73), (2, 74), (0, 0), (2, 75), (2, 76), (2, 77), (2, 78), (0, 0), (2, 79), (2, 80), (0, 0), (2, 81), (2, 82), (2, 83), (2, 84), (2, 85), (2, 86), (2, 87), (0, 0), (2, 88), (2, 89), (2, 90), (0, 0), (0, 0), (2, 91), (0, 0), (2, 92), (0, 0), (0, 0), (0, 0), (2, 93), (2, 94), (0, 0), (0, 0), (2, 95), (2, 96), (0, 0), (2, 97), (2, 98), (2, 99), (2, 100), (2, 101)]
  | _ => []
abbrev ev_St : Type := (Nat → Nat → Int) × (Nat → Nat → Int64) × (Nat → Nat → Nat) × (Nat → Bool) × Nat × Nat × Nat
abbrev ev_sN (S : ev_St) : Nat := S.2.2.2.2.1
abbrev ev_sC (S : ev_St) : Nat := S.2.2.2.2.2.1
abbrev ev_sZ (S : ev_St) : Nat := S.2.2.2.2.2.2
abbrev ev_rng (x : Int) : Prop := -2147483648 ≤ x ∧ x ≤ 2147483647
def ev_nv : Nat → Value
  | 0 => .null
  | k + 1 => .ref k
def ev_fv (S : ev_St) (k f : Nat) : Nat × Nat → Value
  | (0, _) => .int (Int32.ofInt (S.1 k f))
  | (1, _) => .long (S.2.1 k f)
  | (2, z) => .ref (k + z)
  | _ => ev_nv (S.2.2.1 k f)
def ev_obv (ci k : Nat) (S : ev_St) : List Value := (ev_fks ci).mapIdx (fun f q => ev_fv S k f q)
def ev_sh (S : ev_St) (k : Nat) : Nat × Nat × FieldType × Nat × Nat := match ev_shs[k]? with
  | some s => s
  | none => (1, 1024, match S.2.2.2.1 k with
    | true => .byte
    | false => .int, 0, 0)
def ev_isOb (k ci : Nat) : Bool := match ev_shs[k]? with
  | some (0, c, _) => Nat.beq c ci
  | _ => false
def ev_isAb (k kd : Nat) (ty : FieldType) : Bool := match ev_shs[k]? with
  | some (q, _, t, _) => Nat.beq q kd && decide (t = ty)
  | none => false
def ev_aln (k : Nat) : Nat := match ev_shs[k]? with
  | some (_, N, _) => N
  | none => 1024
/-- fields and arrays whose references change, and what they may refer to: an object of a class, 100 an array of ints, 102 and 103 a later array of ints, of bytes -/
def ev_mt : Nat → Nat → Option Nat
  | 1, 8 => some 10
  | 2, 9 => some 5
  | 7, 7 => some 10
  | 7, 9 => some 5
  | 8, 0 => some 5
  | 8, 1 => some 10
  | 11, 2 => some 100
  | 11, 3 => some 100
  | 11, 4 => some 100
  | 11, 5 => some 100
  | 11, 11 => some 6
  | _, _ => none
def ev_ma : Nat → Option Nat
  | 15 => some 10
  | 259 => some 102
  | 260 => some 103
  | _ => none
def ev_ty (S : ev_St) (t r : Nat) : Prop := r = 0 ∨ (match t with
  | 100 => ev_isAb (r - 1) 1 .int = true
  | 102 => 724 ≤ r - 1 ∧ r - 1 < ev_sN S ∧ S.2.2.2.1 (r - 1) = false
  | 103 => 724 ≤ r - 1 ∧ r - 1 < ev_sN S ∧ S.2.2.2.1 (r - 1) = true
  | t => ev_isOb (r - 1) t = true)
def ev_cv (S : ev_St) (k : Nat) : Nat × Nat × FieldType × Nat × Nat → ev_E → Prop
  | (0, ci, _), e => e = .inr (ci, ev_obv ci k S)
  | (1, N, ty, _), e => ∃ l, e = .inl (ty, N, l) ∧ ∀ i, i < N → (ev_int (ev_rd (.int 0) l i)).toInt = S.1 k i
  | (2, N, ty, _), e => ∃ l, e = .inl (ty, N, l) ∧ ∀ i, i < N → ev_long (ev_rd (.long 0) l i) = S.2.1 k i
  | (3, N, ty, b, c), e => ∃ l, e = .inl (ty, N, l) ∧ ∀ i, i < N → ev_ref (ev_rd .null l i) = .ref (b + c * i)
  | (_, N, ty, _), e => ∃ l, e = .inl (ty, N, l) ∧ ∀ i, i < N → ev_ref (ev_rd .null l i) = ev_nv (S.2.2.1 k i)
def ev_V (h : List ev_E) (S : ev_St) : Prop := h.length = ev_sN S ∧ 724 ≤ ev_sN S ∧ (∀ k f, ev_rng (S.1 k f)) ∧ (∀ k e, h[k]? = some e → ev_cv S k (ev_sh S k) e) ∧ (∀ k ci f t, ev_isOb k ci = true → ev_mt ci f = some t → ev_ty S t (S.2.2.1 k f)) ∧ (∀ k i t, ev_ma k = some t → ev_ty S t (S.2.2.1 k i))
def ev_pI (S : ev_St) (k f : Nat) (x : Int) : ev_St := (fun a b => if a = k ∧ b = f then x else S.1 a b, S.2)
def ev_pL (S : ev_St) (k f : Nat) (x : Int64) : ev_St := (S.1, fun a b => if a = k ∧ b = f then x else S.2.1 a b, S.2.2)
def ev_pR (S : ev_St) (k f r : Nat) : ev_St := (S.1, S.2.1, fun a b => if a = k ∧ b = f then r else S.2.2.1 a b, S.2.2.2)
theorem ev_oi {x : Int} (h : ev_rng x) : (Int32.ofInt x).toInt = x := Int32.toInt_ofInt_of_le (by have := h.1; omega) (by have := h.2; omega)
theorem ev_rng_i (x : Int32) : ev_rng x.toInt := ⟨by have := Int32.le_toInt x; omega, by have := Int32.toInt_lt x; omega⟩
theorem ev_io (x : Int32) : Int32.ofInt x.toInt = x := Int32.ofInt_toInt x
theorem ev_shs_len : ev_shs.length = 724 := by decide +kernel
theorem ev_isOb_sh {k ci : Nat} (h : ev_isOb k ci = true) : ∃ t, ev_shs[k]? = some (0, ci, t) := by
  unfold ev_isOb at h
  split at h
  · next c t e => rw [e, Nat.eq_of_beq_eq_true h]; exact ⟨t, rfl⟩
  · cases h
theorem ev_isAb_sh {k kd : Nat} {ty : FieldType} (h : ev_isAb k kd ty = true) : ∃ t, ev_shs[k]? = some (kd, ev_aln k, ty, t) := by
  unfold ev_isAb at h
  split at h
  · next q N t z e =>
    rw [Bool.and_eq_true] at h
    have e2 : ev_aln k = N := by unfold ev_aln; rw [e]
    rw [e, Nat.eq_of_beq_eq_true h.1, of_decide_eq_true h.2, e2]
    exact ⟨z, rfl⟩
  · cases h
theorem ev_sh_lt {k : Nat} {s : Nat × Nat × FieldType × Nat × Nat} (h : ev_shs[k]? = some s) : k < 724 := by
  have := (List.getElem?_eq_some_iff.mp h).1
  rw [ev_shs_len] at this
  exact this
section EVV
variable {h : List ev_E} {S S' : ev_St} {k ci f : Nat}
theorem ev_V_cell {s : Nat × Nat × FieldType × Nat × Nat} (hV : ev_V h S) (hs : ev_shs[k]? = some s) : ∃ e, h[k]? = some e ∧ ev_cv S k s e := by
  obtain ⟨h1, h2, -, h4, -⟩ := hV
  have hk : k < h.length := by have := ev_sh_lt hs; omega
  have e := List.getElem?_eq_getElem hk
  have c := h4 k _ e
  unfold ev_sh at c
  rw [hs] at c
  exact ⟨_, e, c⟩
theorem ev_V_obj (hV : ev_V h S) (hk : ev_isOb k ci = true) : h[k]? = some (.inr (ci, ev_obv ci k S)) := by
  obtain ⟨t, hs⟩ := ev_isOb_sh hk
  obtain ⟨e, h1, h2⟩ := ev_V_cell hV hs
  have h2 : e = .inr (ci, ev_obv ci k S) := h2
  rw [h1, h2]
theorem ev_V_arrI {ty : FieldType} (hV : ev_V h S) (hk : ev_isAb k 1 ty = true) : ∃ l, h[k]? = some (.inl (ty, ev_aln k, l)) ∧ ∀ i, i < ev_aln k → (ev_int (ev_rd (.int 0) l i)).toInt = S.1 k i := by
  obtain ⟨t, hs⟩ := ev_isAb_sh hk
  obtain ⟨e, h1, l, rfl, h3⟩ := ev_V_cell hV hs
  exact ⟨l, h1, h3⟩
theorem ev_V_arrL {ty : FieldType} (hV : ev_V h S) (hk : ev_isAb k 2 ty = true) : ∃ l, h[k]? = some (.inl (ty, ev_aln k, l)) ∧ ∀ i, i < ev_aln k → ev_long (ev_rd (.long 0) l i) = S.2.1 k i := by
  obtain ⟨t, hs⟩ := ev_isAb_sh hk
  obtain ⟨e, h1, l, rfl, h3⟩ := ev_V_cell hV hs
  exact ⟨l, h1, h3⟩
theorem ev_obv_get {q : Nat × Nat} (hf : (ev_fks ci)[f]? = some q) : (ev_obv ci k S)[f]? = some (ev_fv S k f q) := by
  unfold ev_obv
  rw [List.getElem?_mapIdx, hf]
  rfl
theorem ev_obv_len : (ev_obv ci k S).length = (ev_fks ci).length := by
  unfold ev_obv
  rw [List.length_mapIdx]
theorem ev_obv_set {q : Nat × Nat} {v : Value} (hf : (ev_fks ci)[f]? = some q) (hv : v = ev_fv S' k f q) (ho : ∀ j q', j ≠ f → ev_fv S' k j q' = ev_fv S k j q') : (ev_obv ci k S).set f v = ev_obv ci k S' := by
  refine List.ext_getElem? (fun j => ?_)
  rw [List.getElem?_set]
  unfold ev_obv
  rw [List.getElem?_mapIdx, List.getElem?_mapIdx]
  have hlt := (List.getElem?_eq_some_iff.mp hf).1
  by_cases hj : f = j
  · subst hj
    rw [if_pos rfl, List.length_mapIdx, if_pos hlt, hf, hv]
    rfl
  · rw [if_neg hj]
    cases hq : (ev_fks ci)[j]? with
    | none => rfl
    | some q' => exact congrArg some (ho j q' (Ne.symm hj)).symm
theorem ev_cv_congr {s : Nat × Nat × FieldType × Nat × Nat} {e : ev_E} (h1 : ∀ f, S'.1 k f = S.1 k f) (h2 : ∀ f, S'.2.1 k f = S.2.1 k f) (h3 : ∀ f, S'.2.2.1 k f = S.2.2.1 k f) (h : ev_cv S k s e) : ev_cv S' k s e := by
  have hb : ∀ ci, ev_obv ci k S' = ev_obv ci k S := fun ci => by
    unfold ev_obv
    congr 1
    funext f q
    obtain ⟨q1, q2⟩ := q
    unfold ev_fv
    split
    · rw [h1]
    · rw [h2]
    · rfl
    · rw [h3]
  obtain ⟨q, N, ty, b, c⟩ := s
  unfold ev_cv at h ⊢
  split at h
  · rw [hb]; exact h
  · obtain ⟨l, e1, e2⟩ := h
    exact ⟨l, e1, fun i hi => by rw [h1]; exact e2 i hi⟩
  · obtain ⟨l, e1, e2⟩ := h
    exact ⟨l, e1, fun i hi => by rw [h2]; exact e2 i hi⟩
  · exact h
  · obtain ⟨l, e1, e2⟩ := h
    exact ⟨l, e1, fun i hi => by rw [h3]; exact e2 i hi⟩
/-- a cell that is written -/
theorem ev_V_upd {s : Nat × Nat × FieldType × Nat × Nat} {e : ev_E} (hV : ev_V h S) (hs : ev_sh S k = s) (hn : S'.2.2.2.1 = S.2.2.2.1) (hN : ev_sN S' = ev_sN S) (hr : ∀ a b, ev_rng (S'.1 a b)) (h1 : ∀ a f, a ≠ k → S'.1 a f = S.1 a f) (h2 : ∀ a f, a ≠ k → S'.2.1 a f = S.2.1 a f) (h3 : ∀ a f, a ≠ k → S'.2.2.1 a f = S.2.2.1 a f) (he : ev_cv S' k s e) (ht : (∀ k ci f t, ev_isOb k ci = true → ev_mt ci f = some t → ev_ty S' t (S'.2.2.1 k f)) ∧ (∀ k i t, ev_ma k = some t → ev_ty S' t (S'.2.2.1 k i))) : ev_V (h.set k e) S' := by
  obtain ⟨v1, v2, v3, v4, v5⟩ := hV
  have hsh : ∀ a, ev_sh S' a = ev_sh S a := fun a => by
    unfold ev_sh
    rw [hn]
  refine ⟨by rw [List.length_set, hN]; exact v1, by rw [hN]; exact v2, hr, fun a e' hae => ?_, ht.1, ht.2⟩
  rw [List.getElem?_set] at hae
  by_cases ha : k = a
  · subst ha
    rw [if_pos rfl] at hae
    split at hae
    · cases hae
      rw [hsh, hs]
      exact he
    · cases hae
  · rw [if_neg ha] at hae
    rw [hsh]
    exact ev_cv_congr (fun f => h1 a f (Ne.symm ha)) (fun f => h2 a f (Ne.symm ha)) (fun f => h3 a f (Ne.symm ha)) (v4 a e' hae)
theorem ev_sh_of {s : Nat × Nat × FieldType × Nat × Nat} (hs : ev_shs[k]? = some s) : ev_sh S k = s := by
  unfold ev_sh
  rw [hs]
theorem ev_pI_ne {x : Int} {a b : Nat} (h : a ≠ k) : (ev_pI S k f x).1 a b = S.1 a b := if_neg (fun e => h e.1)
theorem ev_pI_ne2 {x : Int} {a b : Nat} (h : b ≠ f) : (ev_pI S k f x).1 a b = S.1 a b := if_neg (fun e => h e.2)
theorem ev_pI_eq {x : Int} : (ev_pI S k f x).1 k f = x := if_pos ⟨rfl, rfl⟩
theorem ev_pL_ne {x : Int64} {a b : Nat} (h : a ≠ k) : (ev_pL S k f x).2.1 a b = S.2.1 a b := if_neg (fun e => h e.1)
theorem ev_pL_ne2 {x : Int64} {a b : Nat} (h : b ≠ f) : (ev_pL S k f x).2.1 a b = S.2.1 a b := if_neg (fun e => h e.2)
theorem ev_pL_eq {x : Int64} : (ev_pL S k f x).2.1 k f = x := if_pos ⟨rfl, rfl⟩
theorem ev_pR_ne {r a b : Nat} (h : a ≠ k) : (ev_pR S k f r).2.2.1 a b = S.2.2.1 a b := if_neg (fun e => h e.1)
theorem ev_pR_ne2 {r a b : Nat} (h : b ≠ f) : (ev_pR S k f r).2.2.1 a b = S.2.2.1 a b := if_neg (fun e => h e.2)
theorem ev_pR_eq {r : Nat} : (ev_pR S k f r).2.2.1 k f = r := if_pos ⟨rfl, rfl⟩
theorem ev_pI_rng {x : Int} (hS : ∀ a b, ev_rng (S.1 a b)) (hx : ev_rng x) : ∀ a b, ev_rng ((ev_pI S k f x).1 a b) := fun a b => by
  unfold ev_pI
  dsimp only
  split
  · exact hx
  · exact hS a b
theorem ev_V_putI {z : Nat} {x : Int} (hV : ev_V h S) (hk : ev_isOb k ci = true) (hf : (ev_fks ci)[f]? = some (0, z)) (hx : ev_rng x) : ev_V (h.set k (.inr (ci, (ev_obv ci k S).set f (.int (Int32.ofInt x))))) (ev_pI S k f x) := by
  obtain ⟨t, hs⟩ := ev_isOb_sh hk
  refine ev_V_upd (S' := ev_pI S k f x) hV (ev_sh_of hs) rfl rfl (ev_pI_rng hV.2.2.1 hx) (fun a b ha => ev_pI_ne ha) (fun _ _ _ => rfl) (fun _ _ _ => rfl) ?_ hV.2.2.2.2
  show _ = _
  rw [ev_obv_set (S' := ev_pI S k f x) hf (by show _ = Value.int (Int32.ofInt ((ev_pI S k f x).1 k f)); rw [ev_pI_eq]) (fun j q hj => ?_)]
  obtain ⟨q1, q2⟩ := q
  unfold ev_fv
  split
  · rw [ev_pI_ne2 hj]
  · rfl
  · rfl
  · rfl
theorem ev_V_putL {z : Nat} {x : Int64} (hV : ev_V h S) (hk : ev_isOb k ci = true) (hf : (ev_fks ci)[f]? = some (1, z)) : ev_V (h.set k (.inr (ci, (ev_obv ci k S).set f (.long x)))) (ev_pL S k f x) := by
  obtain ⟨t, hs⟩ := ev_isOb_sh hk
  refine ev_V_upd (S' := ev_pL S k f x) hV (ev_sh_of hs) rfl rfl hV.2.2.1 (fun _ _ _ => rfl) (fun a b ha => ev_pL_ne ha) (fun _ _ _ => rfl) ?_ hV.2.2.2.2
  show _ = _
  rw [ev_obv_set (S' := ev_pL S k f x) hf (by show _ = Value.long ((ev_pL S k f x).2.1 k f); rw [ev_pL_eq]) (fun j q hj => ?_)]
  obtain ⟨q1, q2⟩ := q
  unfold ev_fv
  split
  · rfl
  · rw [ev_pL_ne2 hj]
  · rfl
  · rfl
theorem ev_isOb_uniq {a b : Nat} (h1 : ev_isOb k a = true) (h2 : ev_isOb k b = true) : a = b := by
  obtain ⟨t, e1⟩ := ev_isOb_sh h1
  obtain ⟨u, e2⟩ := ev_isOb_sh h2
  rw [e1] at e2
  cases e2
  rfl
theorem ev_ty_pR {r t x : Nat} : ev_ty (ev_pR S k f r) t x ↔ ev_ty S t x := Iff.rfl
theorem ev_V_putR {z r t : Nat} (hV : ev_V h S) (hk : ev_isOb k ci = true) (hf : (ev_fks ci)[f]? = some (3, z)) (hm : ev_mt ci f = some t) (hr : ev_ty S t r) : ev_V (h.set k (.inr (ci, (ev_obv ci k S).set f (ev_nv r)))) (ev_pR S k f r) := by
  obtain ⟨u, hs⟩ := ev_isOb_sh hk
  refine ev_V_upd (S' := ev_pR S k f r) hV (ev_sh_of hs) rfl rfl hV.2.2.1 (fun _ _ _ => rfl) (fun _ _ _ => rfl) (fun a b ha => ev_pR_ne ha) ?_ ⟨fun a c g t' ha hg => ?_, fun a i t' ha => ?_⟩
  · show _ = _
    rw [ev_obv_set (S' := ev_pR S k f r) hf (by show _ = ev_nv ((ev_pR S k f r).2.2.1 k f); rw [ev_pR_eq]) (fun j q hj => ?_)]
    obtain ⟨q1, q2⟩ := q
    unfold ev_fv
    split
    · rfl
    · rfl
    · rfl
    · rw [ev_pR_ne2 hj]
  · rw [ev_ty_pR]
    by_cases hak : a = k
    · subst hak
      have := ev_isOb_uniq ha hk
      subst this
      by_cases hgf : g = f
      · subst hgf
        rw [hm] at hg
        cases hg
        rw [ev_pR_eq]
        exact hr
      · rw [ev_pR_ne2 hgf]
        exact hV.2.2.2.2.1 a _ g t' ha hg
    · rw [ev_pR_ne hak]
      exact hV.2.2.2.2.1 a c g t' ha hg
  · rw [ev_ty_pR]
    by_cases hak : a = k
    · subst hak
      exfalso
      have h15 : ∀ b, ev_ma b ≠ none → b = 15 ∨ b = 259 ∨ b = 260 := fun b hb => by
        unfold ev_ma at hb
        split at hb
        · exact Or.inl rfl
        · exact Or.inr (Or.inl rfl)
        · exact Or.inr (Or.inr rfl)
        · exact absurd rfl hb
      rcases h15 a (by rw [ha]; exact Option.some_ne_none _) with rfl | rfl | rfl
      · rw [show ev_shs[15]? = some (4, 28, .object "MendBench$Text", 0, 0) from by decide +kernel] at hs
        cases hs
      · rw [show ev_shs[259]? = some (4, 512, .array .int, 0, 0) from by decide +kernel] at hs
        cases hs
      · rw [show ev_shs[260]? = some (4, 1024, .array .byte, 0, 0) from by decide +kernel] at hs
        cases hs
    · rw [ev_pR_ne hak]
      exact hV.2.2.2.2.2 a i t' ha
theorem ev_V_astI {ty : FieldType} {l : List (Nat × Value)} {i : Nat} {x : Int} (hV : ev_V h S) (hk : ev_isAb k 1 ty = true) (hl : ∀ i, i < ev_aln k → (ev_int (ev_rd (.int 0) l i)).toInt = S.1 k i) (hx : ev_rng x) : ev_V (h.set k (.inl (ty, ev_aln k, (i, .int (Int32.ofInt x)) :: l))) (ev_pI S k i x) := by
  obtain ⟨t, hs⟩ := ev_isAb_sh hk
  refine ev_V_upd (S' := ev_pI S k i x) hV (ev_sh_of hs) rfl rfl (ev_pI_rng hV.2.2.1 hx) (fun a b ha => ev_pI_ne ha) (fun _ _ _ => rfl) (fun _ _ _ => rfl) ?_ hV.2.2.2.2
  refine ⟨_, rfl, fun j hj => ?_⟩
  rw [ev_rd_cons]
  by_cases hij : i = j
  · subst hij
    rw [if_pos rfl, ev_pI_eq]
    exact ev_oi hx
  · rw [if_neg (Ne.symm hij), ev_pI_ne2 (Ne.symm hij)]
    exact hl j hj
theorem ev_V_astL {ty : FieldType} {l : List (Nat × Value)} {i : Nat} {x : Int64} (hV : ev_V h S) (hk : ev_isAb k 2 ty = true) (hl : ∀ i, i < ev_aln k → ev_long (ev_rd (.long 0) l i) = S.2.1 k i) : ev_V (h.set k (.inl (ty, ev_aln k, (i, .long x) :: l))) (ev_pL S k i x) := by
  obtain ⟨t, hs⟩ := ev_isAb_sh hk
  refine ev_V_upd (S' := ev_pL S k i x) hV (ev_sh_of hs) rfl rfl hV.2.2.1 (fun _ _ _ => rfl) (fun a b ha => ev_pL_ne ha) (fun _ _ _ => rfl) ?_ hV.2.2.2.2
  refine ⟨_, rfl, fun j hj => ?_⟩
  rw [ev_rd_cons]
  by_cases hij : i = j
  · subst hij
    rw [if_pos rfl, ev_pL_eq]
    rfl
  · rw [if_neg (Ne.symm hij), ev_pL_ne2 (Ne.symm hij)]
    exact hl j hj
end EVV
