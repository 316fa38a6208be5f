/-! the methods' words -/
theorem ev_cdX0_init : (ev_chunk 2)[153]? = some (Jvm.Cond.code yX0_init cX0_init 2 (none)) := rfl
theorem ev_cdX0_textAt : (ev_chunk 6)[99]? = some (Jvm.Cond.code yX0_textAt cX0_textAt 2 (some (.object "MendBench$Text"))) := rfl
theorem ev_cdX0_addMark : (ev_chunk 8)[19]? = some (Jvm.Cond.code yX0_addMark cX0_addMark 4 (some .int)) := rfl
theorem ev_cdX0_endCall : (ev_chunk 7)[148]? = some (Jvm.Cond.code yX0_endCall cX0_endCall 1 (none)) := rfl
theorem ev_cdX0_edit : (ev_chunk 7)[99]? = some (Jvm.Cond.code yX0_edit cX0_edit 9 (none)) := rfl
theorem ev_cdX0_undoGroup : (ev_chunk 8)[56]? = some (Jvm.Cond.code yX0_undoGroup cX0_undoGroup 2 (some .int)) := rfl
theorem ev_cdX0_redoGroup : (ev_chunk 8)[71]? = some (Jvm.Cond.code yX0_redoGroup cX0_redoGroup 2 (some .int)) := rfl
theorem ev_cdX0_redoEdit : (ev_chunk 7)[124]? = some (Jvm.Cond.code yX0_redoEdit cX0_redoEdit 4 (none)) := rfl
theorem ev_cdX0_undoEdit : (ev_chunk 8)[60]? = some (Jvm.Cond.code yX0_undoEdit cX0_undoEdit 4 (none)) := rfl
theorem ev_cdX0_perform : (ev_chunk 7)[132]? = some (Jvm.Cond.code yX0_perform cX0_perform 9 (none)) := rfl
theorem ev_cdX0_moveMarks : (ev_chunk 7)[144]? = some (Jvm.Cond.code yX0_moveMarks cX0_moveMarks 8 (none)) := rfl
theorem ev_cdX0_hasRoom : (ev_chunk 7)[104]? = some (Jvm.Cond.code yX0_hasRoom cX0_hasRoom 2 (some .boolean)) := rfl
theorem ev_cdX0_forget : (ev_chunk 7)[110]? = some (Jvm.Cond.code yX0_forget cX0_forget 1 (none)) := rfl
theorem ev_cdX0_writeEdit : (ev_chunk 7)[115]? = some (Jvm.Cond.code yX0_writeEdit cX0_writeEdit 5 (none)) := rfl
theorem ev_cdX0_readEdit : (ev_chunk 7)[128]? = some (Jvm.Cond.code yX0_readEdit cX0_readEdit 3 (some .int)) := rfl
theorem ev_cdX0_writeSign : (ev_chunk 7)[120]? = some (Jvm.Cond.code yX0_writeSign cX0_writeSign 5 (none)) := rfl
theorem ev_cdX0_readSign : (ev_chunk 7)[136]? = some (Jvm.Cond.code yX0_readSign cX0_readSign 3 (some .int)) := rfl
theorem ev_cdX1_init : (ev_chunk 1)[68]? = some (Jvm.Cond.code yX1_init cX1_init 1 (none)) := rfl
theorem ev_cdX1_read : (ev_chunk 4)[239]? = some (Jvm.Cond.code yX1_read cX1_read 5 (some .int)) := rfl
theorem ev_cdX1_begin : (ev_chunk 5)[3]? = some (Jvm.Cond.code yX1_begin cX1_begin 1 (some .boolean)) := rfl
theorem ev_cdX1_beginOperand : (ev_chunk 5)[7]? = some (Jvm.Cond.code yX1_beginOperand cX1_beginOperand 1 (none)) := rfl
theorem ev_cdX1_readElement : (ev_chunk 5)[12]? = some (Jvm.Cond.code yX1_readElement cX1_readElement 3 (some .boolean)) := rfl
theorem ev_cdX1_put : (ev_chunk 5)[27]? = some (Jvm.Cond.code yX1_put cX1_put 5 (some .boolean)) := rfl
theorem ev_cdX1_readJoint : (ev_chunk 5)[31]? = some (Jvm.Cond.code yX1_readJoint cX1_readJoint 2 (some .boolean)) := rfl
theorem ev_cdX1_join : (ev_chunk 5)[20]? = some (Jvm.Cond.code yX1_join cX1_join 1 (some .boolean)) := rfl
theorem ev_cdX1_end : (ev_chunk 5)[16]? = some (Jvm.Cond.code yX1_end cX1_end 1 (some .boolean)) := rfl
theorem ev_cdX1_readRange : (ev_chunk 5)[51]? = some (Jvm.Cond.code yX1_readRange cX1_readRange 8 (some .boolean)) := rfl
theorem ev_cdX1_readSingle : (ev_chunk 5)[55]? = some (Jvm.Cond.code yX1_readSingle cX1_readSingle 3 (some .int)) := rfl
theorem ev_cdX2_init : (ev_chunk 1)[201]? = some (Jvm.Cond.code yX2_init cX2_init 1 (none)) := rfl
theorem ev_cdX2_learn : (ev_chunk 5)[111]? = some (Jvm.Cond.code yX2_learn cX2_learn 3 (none)) := rfl
theorem ev_cdX2_lowest : (ev_chunk 5)[161]? = some (Jvm.Cond.code yX2_lowest cX2_lowest 5 (some .int)) := rfl
theorem ev_cdX2_learnNode : (ev_chunk 5)[115]? = some (Jvm.Cond.code yX2_learnNode cX2_learnNode 3 (none)) := rfl
theorem ev_cdX2_learnRepeat : (ev_chunk 5)[133]? = some (Jvm.Cond.code yX2_learnRepeat cX2_learnRepeat 7 (none)) := rfl
theorem ev_cdX2_learnRow : (ev_chunk 5)[146]? = some (Jvm.Cond.code yX2_learnRow cX2_learnRow 4 (none)) := rfl
theorem ev_cdX2_learnPart : (ev_chunk 5)[151]? = some (Jvm.Cond.code yX2_learnPart cX2_learnPart 8 (none)) := rfl
theorem ev_cdX2_empty : (ev_chunk 5)[119]? = some (Jvm.Cond.code yX2_empty cX2_empty 3 (none)) := rfl
theorem ev_cdX2_put : (ev_chunk 5)[123]? = some (Jvm.Cond.code yX2_put cX2_put 7 (none)) := rfl
theorem ev_cdX2_unite : (ev_chunk 5)[142]? = some (Jvm.Cond.code yX2_unite cX2_unite 5 (none)) := rfl
theorem ev_cdX2_isPlain : (ev_chunk 5)[192]? = some (Jvm.Cond.code yX2_isPlain cX2_isPlain 6 (some .boolean)) := rfl
theorem ev_cdX2_hasEnds : (ev_chunk 5)[196]? = some (Jvm.Cond.code yX2_hasEnds cX2_hasEnds 2 (some .boolean)) := rfl
theorem ev_cdX2_findLiteral : (ev_chunk 5)[168]? = some (Jvm.Cond.code yX2_findLiteral cX2_findLiteral 8 (none)) := rfl
theorem ev_cdX2_keepLonger : (ev_chunk 5)[187]? = some (Jvm.Cond.code yX2_keepLonger cX2_keepLonger 1 (none)) := rfl
theorem ev_cdX3_init : (ev_chunk 2)[216]? = some (Jvm.Cond.code yX3_init cX3_init 1 (none)) := rfl
theorem ev_cdX3_start : (ev_chunk 7)[181]? = some (Jvm.Cond.code yX3_start cX3_start 2 (none)) := rfl
theorem ev_cdX3_prepare : (ev_chunk 7)[186]? = some (Jvm.Cond.code yX3_prepare cX3_prepare 10 (some .int)) := rfl
theorem ev_cdX3_addEdits : (ev_chunk 7)[229]? = some (Jvm.Cond.code yX3_addEdits cX3_addEdits 6 (none)) := rfl
theorem ev_cdX3_addEdit : (ev_chunk 7)[235]? = some (Jvm.Cond.code yX3_addEdit cX3_addEdit 6 (none)) := rfl
theorem ev_cdX3_commit : (ev_chunk 8)[1]? = some (Jvm.Cond.code yX3_commit cX3_commit 5 (none)) := rfl
theorem ev_cdX3_isTemplate : (ev_chunk 6)[16]? = some (Jvm.Cond.code yX3_isTemplate cX3_isTemplate 5 (some .boolean)) := rfl
theorem ev_cdX3_lengthOf : (ev_chunk 6)[19]? = some (Jvm.Cond.code yX3_lengthOf cX3_lengthOf 6 (some .int)) := rfl
theorem ev_cdX3_fillIn : (ev_chunk 7)[191]? = some (Jvm.Cond.code yX3_fillIn cX3_fillIn 9 (none)) := rfl
theorem ev_cdX3_putPiece : (ev_chunk 7)[199]? = some (Jvm.Cond.code yX3_putPiece cX3_putPiece 8 (none)) := rfl
theorem ev_cdX3_putSlashed : (ev_chunk 7)[203]? = some (Jvm.Cond.code yX3_putSlashed cX3_putSlashed 3 (none)) := rfl
theorem ev_cdX3_putSpan : (ev_chunk 7)[220]? = some (Jvm.Cond.code yX3_putSpan cX3_putSpan 4 (none)) := rfl
theorem ev_cdX3_putSign : (ev_chunk 7)[207]? = some (Jvm.Cond.code yX3_putSign cX3_putSign 2 (none)) := rfl
theorem ev_cdX4_init : (ev_chunk 1)[119]? = some (Jvm.Cond.code yX4_init cX4_init 1 (none)) := rfl
theorem ev_cdX5_init : (ev_chunk 2)[0]? = some (Jvm.Cond.code yX5_init cX5_init 1 (none)) := rfl
theorem ev_cdX5_restart : (ev_chunk 4)[97]? = some (Jvm.Cond.code yX5_restart cX5_restart 1 (none)) := rfl
theorem ev_cdX5_add : (ev_chunk 4)[117]? = some (Jvm.Cond.code yX5_add cX5_add 4 (some .int)) := rfl
theorem ev_cdX5_isNode : (ev_chunk 4)[121]? = some (Jvm.Cond.code yX5_isNode cX5_isNode 2 (some .boolean)) := rfl
theorem ev_cdX5_root : (ev_chunk 5)[158]? = some (Jvm.Cond.code yX5_root cX5_root 1 (some .int)) := rfl
theorem ev_cdX5_isEnd : (ev_chunk 5)[126]? = some (Jvm.Cond.code yX5_isEnd cX5_isEnd 1 (some .boolean)) := rfl
theorem ev_cdX5_isRepeat : (ev_chunk 4)[136]? = some (Jvm.Cond.code yX5_isRepeat cX5_isRepeat 1 (some .boolean)) := rfl
theorem ev_cdX5_isLook : (ev_chunk 5)[154]? = some (Jvm.Cond.code yX5_isLook cX5_isLook 1 (some .boolean)) := rfl
theorem ev_cdX5_hasRows : (ev_chunk 4)[140]? = some (Jvm.Cond.code yX5_hasRows cX5_hasRows 1 (some .boolean)) := rfl
theorem ev_cdX5_onlyRow : (ev_chunk 5)[172]? = some (Jvm.Cond.code yX5_onlyRow cX5_onlyRow 3 (some .int)) := rfl
theorem ev_cdX5_isOneSign : (ev_chunk 5)[176]? = some (Jvm.Cond.code yX5_isOneSign cX5_isOneSign 2 (some .boolean)) := rfl
theorem ev_cdX5_tie : (ev_chunk 4)[133]? = some (Jvm.Cond.code yX5_tie cX5_tie 3 (none)) := rfl
theorem ev_cdX5_tieRows : (ev_chunk 4)[144]? = some (Jvm.Cond.code yX5_tieRows cX5_tieRows 7 (none)) := rfl
theorem ev_cdX6_init : (ev_chunk 2)[6]? = some (Jvm.Cond.code yX6_init cX6_init 1 (none)) := rfl
theorem ev_cdX6_isIn : (ev_chunk 5)[233]? = some (Jvm.Cond.code yX6_isIn cX6_isIn 2 (some .boolean)) := rfl
theorem ev_cdX6_write : (ev_chunk 5)[200]? = some (Jvm.Cond.code yX6_write cX6_write 6 (none)) := rfl
theorem ev_cdX6_findNever : (ev_chunk 5)[205]? = some (Jvm.Cond.code yX6_findNever cX6_findNever 8 (none)) := rfl
theorem ev_cdX6_writeNode : (ev_chunk 5)[211]? = some (Jvm.Cond.code yX6_writeNode cX6_writeNode 7 (none)) := rfl
theorem ev_cdX6_aimJumps : (ev_chunk 5)[237]? = some (Jvm.Cond.code yX6_aimJumps cX6_aimJumps 7 (none)) := rfl
theorem ev_cdX6_writeRepeat : (ev_chunk 5)[220]? = some (Jvm.Cond.code yX6_writeRepeat cX6_writeRepeat 9 (none)) := rfl
theorem ev_cdX6_add : (ev_chunk 5)[215]? = some (Jvm.Cond.code yX6_add cX6_add 7 (none)) := rfl
theorem ev_cdX6_copy : (ev_chunk 5)[229]? = some (Jvm.Cond.code yX6_copy cX6_copy 5 (none)) := rfl
theorem ev_cdX6_insert : (ev_chunk 5)[224]? = some (Jvm.Cond.code yX6_insert cX6_insert 5 (none)) := rfl
theorem ev_cdX6_findLive : (ev_chunk 6)[1]? = some (Jvm.Cond.code yX6_findLive cX6_findLive 4 (none)) := rfl
theorem ev_cdX6_leadsOn : (ev_chunk 6)[5]? = some (Jvm.Cond.code yX6_leadsOn cX6_leadsOn 4 (some .boolean)) := rfl
theorem ev_cdX7_init : (ev_chunk 1)[60]? = some (Jvm.Cond.code yX7_init cX7_init 2 (none)) := rfl
theorem ev_cdX7_keepPart : (ev_chunk 5)[92]? = some (Jvm.Cond.code yX7_keepPart cX7_keepPart 3 (none)) := rfl
theorem ev_cdX7_read : (ev_chunk 4)[93]? = some (Jvm.Cond.code yX7_read cX7_read 6 (some .boolean)) := rfl
theorem ev_cdX7_peek : (ev_chunk 4)[156]? = some (Jvm.Cond.code yX7_peek cX7_peek 2 (some .int)) := rfl
theorem ev_cdX7_readNext : (ev_chunk 4)[152]? = some (Jvm.Cond.code yX7_readNext cX7_readNext 2 (some .boolean)) := rfl
theorem ev_cdX7_isOn : (ev_chunk 4)[235]? = some (Jvm.Cond.code yX7_isOn cX7_isOn 2 (some .boolean)) := rfl
theorem ev_cdX7_countNode : (ev_chunk 4)[176]? = some (Jvm.Cond.code yX7_countNode cX7_countNode 1 (some .boolean)) := rfl
theorem ev_cdX7_addNode : (ev_chunk 4)[172]? = some (Jvm.Cond.code yX7_addNode cX7_addNode 4 (some .boolean)) := rfl
theorem ev_cdX7_addSign : (ev_chunk 5)[79]? = some (Jvm.Cond.code yX7_addSign cX7_addSign 6 (some .boolean)) := rfl
theorem ev_cdX7_addSigns : (ev_chunk 5)[68]? = some (Jvm.Cond.code yX7_addSigns cX7_addSigns 6 (some .boolean)) := rfl
theorem ev_cdX7_addItem : (ev_chunk 4)[125]? = some (Jvm.Cond.code yX7_addItem cX7_addItem 3 (some .boolean)) := rfl
theorem ev_cdX7_addRepeat : (ev_chunk 4)[219]? = some (Jvm.Cond.code yX7_addRepeat cX7_addRepeat 7 (some .boolean)) := rfl
theorem ev_cdX7_enclose : (ev_chunk 4)[223]? = some (Jvm.Cond.code yX7_enclose cX7_enclose 4 (some .int)) := rfl
theorem ev_cdX7_readBounds : (ev_chunk 4)[227]? = some (Jvm.Cond.code yX7_readBounds cX7_readBounds 4 (some .boolean)) := rfl
theorem ev_cdX7_readNumber : (ev_chunk 4)[231]? = some (Jvm.Cond.code yX7_readNumber cX7_readNumber 2 (some .int)) := rfl
theorem ev_cdX7_readSlash : (ev_chunk 5)[72]? = some (Jvm.Cond.code yX7_readSlash cX7_readSlash 2 (some .boolean)) := rfl
theorem ev_cdX7_readName : (ev_chunk 5)[84]? = some (Jvm.Cond.code yX7_readName cX7_readName 2 (some .boolean)) := rfl
theorem ev_cdX7_begin : (ev_chunk 4)[104]? = some (Jvm.Cond.code yX7_begin cX7_begin 5 (some .boolean)) := rfl
theorem ev_cdX7_endRow : (ev_chunk 4)[113]? = some (Jvm.Cond.code yX7_endRow cX7_endRow 3 (some .boolean)) := rfl
theorem ev_cdX7_end : (ev_chunk 4)[109]? = some (Jvm.Cond.code yX7_end cX7_end 4 (some .boolean)) := rfl
theorem ev_cdX7_readBar : (ev_chunk 4)[215]? = some (Jvm.Cond.code yX7_readBar cX7_readBar 2 (some .boolean)) := rfl
theorem ev_cdX7_readBracket : (ev_chunk 4)[164]? = some (Jvm.Cond.code yX7_readBracket cX7_readBracket 1 (some .boolean)) := rfl
theorem ev_cdX7_beginPart : (ev_chunk 4)[184]? = some (Jvm.Cond.code yX7_beginPart cX7_beginPart 4 (some .boolean)) := rfl
theorem ev_cdX7_beginGroup : (ev_chunk 4)[180]? = some (Jvm.Cond.code yX7_beginGroup cX7_beginGroup 1 (some .boolean)) := rfl
theorem ev_cdX7_readAngle : (ev_chunk 4)[188]? = some (Jvm.Cond.code yX7_readAngle cX7_readAngle 3 (some .boolean)) := rfl
theorem ev_cdX7_readCondition : (ev_chunk 4)[193]? = some (Jvm.Cond.code yX7_readCondition cX7_readCondition 2 (some .boolean)) := rfl
theorem ev_cdX7_readCall : (ev_chunk 4)[208]? = some (Jvm.Cond.code yX7_readCall cX7_readCall 2 (some .boolean)) := rfl
theorem ev_cdX7_readVerb : (ev_chunk 4)[168]? = some (Jvm.Cond.code yX7_readVerb cX7_readVerb 3 (some .boolean)) := rfl
theorem ev_cdX7_readSwitches : (ev_chunk 4)[201]? = some (Jvm.Cond.code yX7_readSwitches cX7_readSwitches 7 (some .boolean)) := rfl
theorem ev_cdX7_switchOf : (ev_chunk 4)[204]? = some (Jvm.Cond.code yX7_switchOf cX7_switchOf 1 (some .int)) := rfl
theorem ev_cdX7_readInclusion : (ev_chunk 4)[197]? = some (Jvm.Cond.code yX7_readInclusion cX7_readInclusion 2 (some .boolean)) := rfl
theorem ev_cdX7_endText : (ev_chunk 4)[148]? = some (Jvm.Cond.code yX7_endText cX7_endText 2 (some .boolean)) := rfl
theorem ev_cdX7_resolve : (ev_chunk 4)[129]? = some (Jvm.Cond.code yX7_resolve cX7_resolve 4 (some .boolean)) := rfl
theorem ev_cdX8_init : (ev_chunk 3)[21]? = some (Jvm.Cond.code yX8_init cX8_init 1 (none)) := rfl
theorem ev_cdX8_ahead : (ev_chunk 6)[108]? = some (Jvm.Cond.code yX8_ahead cX8_ahead 7 (some .int)) := rfl
theorem ev_cdX8_backwards : (ev_chunk 7)[65]? = some (Jvm.Cond.code yX8_backwards cX8_backwards 6 (some .int)) := rfl
theorem ev_cdX8_nextFrom : (ev_chunk 7)[77]? = some (Jvm.Cond.code yX8_nextFrom cX8_nextFrom 1 (some .int)) := rfl
theorem ev_cdX8_spanOf : (ev_chunk 6)[229]? = some (Jvm.Cond.code yX8_spanOf cX8_spanOf 3 (some .int)) := rfl
theorem ev_cdX8_signAt : (ev_chunk 7)[224]? = some (Jvm.Cond.code yX8_signAt cX8_signAt 2 (some .int)) := rfl
theorem ev_cdX8_groupOf : (ev_chunk 7)[216]? = some (Jvm.Cond.code yX8_groupOf cX8_groupOf 2 (some .int)) := rfl
theorem ev_cdX8_prepare : (ev_chunk 6)[112]? = some (Jvm.Cond.code yX8_prepare cX8_prepare 3 (none)) := rfl
theorem ev_cdX8_run : (ev_chunk 6)[116]? = some (Jvm.Cond.code yX8_run cX8_run 6 (some .int)) := rfl
theorem ev_cdX8_takeStep : (ev_chunk 6)[139]? = some (Jvm.Cond.code yX8_takeStep cX8_takeStep 1 (some .boolean)) := rfl
theorem ev_cdX8_push : (ev_chunk 6)[155]? = some (Jvm.Cond.code yX8_push cX8_push 7 (some .int)) := rfl
theorem ev_cdX8_pushCell : (ev_chunk 6)[159]? = some (Jvm.Cond.code yX8_pushCell cX8_pushCell 6 (some .int)) := rfl
theorem ev_cdX8_isFrame : (ev_chunk 6)[147]? = some (Jvm.Cond.code yX8_isFrame cX8_isFrame 2 (some .boolean)) := rfl
theorem ev_cdX8_callsAround : (ev_chunk 6)[193]? = some (Jvm.Cond.code yX8_callsAround cX8_callsAround 1 (some .int)) := rfl
theorem ev_cdX8_looksAround : (ev_chunk 6)[209]? = some (Jvm.Cond.code yX8_looksAround cX8_looksAround 1 (some .int)) := rfl
theorem ev_cdX8_recordOf : (ev_chunk 6)[178]? = some (Jvm.Cond.code yX8_recordOf cX8_recordOf 4 (some .int)) := rfl
theorem ev_cdX8_keep : (ev_chunk 6)[197]? = some (Jvm.Cond.code yX8_keep cX8_keep 5 (none)) := rfl
theorem ev_cdX8_goBack : (ev_chunk 6)[123]? = some (Jvm.Cond.code yX8_goBack cX8_goBack 4 (some .int)) := rfl
theorem ev_cdX8_restore : (ev_chunk 6)[127]? = some (Jvm.Cond.code yX8_restore cX8_restore 4 (none)) := rfl
theorem ev_cdX8_beginFurther : (ev_chunk 6)[135]? = some (Jvm.Cond.code yX8_beginFurther cX8_beginFurther 4 (some .boolean)) := rfl
theorem ev_cdX8_passWall : (ev_chunk 6)[143]? = some (Jvm.Cond.code yX8_passWall cX8_passWall 5 (some .boolean)) := rfl
theorem ev_cdX8_wallBelow : (ev_chunk 6)[131]? = some (Jvm.Cond.code yX8_wallBelow cX8_wallBelow 4 (some .int)) := rfl
theorem ev_cdX8_enter : (ev_chunk 6)[151]? = some (Jvm.Cond.code yX8_enter cX8_enter 3 (some .boolean)) := rfl
theorem ev_cdX8_passGot : (ev_chunk 6)[174]? = some (Jvm.Cond.code yX8_passGot cX8_passGot 9 (some .boolean)) := rfl
theorem ev_cdX8_choose : (ev_chunk 6)[185]? = some (Jvm.Cond.code yX8_choose cX8_choose 3 (some .boolean)) := rfl
theorem ev_cdX8_call : (ev_chunk 6)[189]? = some (Jvm.Cond.code yX8_call cX8_call 4 (some .boolean)) := rfl
theorem ev_cdX8_look : (ev_chunk 6)[205]? = some (Jvm.Cond.code yX8_look cX8_look 2 (some .boolean)) := rfl
theorem ev_cdX8_leave : (ev_chunk 6)[213]? = some (Jvm.Cond.code yX8_leave cX8_leave 3 (some .boolean)) := rfl
theorem ev_cdX8_endLook : (ev_chunk 6)[221]? = some (Jvm.Cond.code yX8_endLook cX8_endLook 4 (some .boolean)) := rfl
theorem ev_cdX8_goRound : (ev_chunk 6)[201]? = some (Jvm.Cond.code yX8_goRound cX8_goRound 5 (some .boolean)) := rfl
theorem ev_cdX8_beginRound : (ev_chunk 6)[225]? = some (Jvm.Cond.code yX8_beginRound cX8_beginRound 2 (some .boolean)) := rfl
theorem ev_cdX8_endRound : (ev_chunk 6)[217]? = some (Jvm.Cond.code yX8_endRound cX8_endRound 4 (some .boolean)) := rfl
theorem ev_cdX9_init : (ev_chunk 3)[133]? = some (Jvm.Cond.code yX9_init cX9_init 1 (none)) := rfl
theorem ev_cdX9_begin : (ev_chunk 8)[100]? = some (Jvm.Cond.code yX9_begin cX9_begin 3 (none)) := rfl
theorem ev_cdX9_take : (ev_chunk 8)[119]? = some (Jvm.Cond.code yX9_take cX9_take 3 (none)) := rfl
theorem ev_cdX9_tell : (ev_chunk 8)[126]? = some (Jvm.Cond.code yX9_tell cX9_tell 1 (some .int)) := rfl
theorem ev_cdX10_init : (ev_chunk 1)[37]? = some (Jvm.Cond.code yX10_init cX10_init 1 (none)) := rfl
theorem ev_cdX10_at : (ev_chunk 4)[160]? = some (Jvm.Cond.code yX10_at cX10_at 2 (some .int)) := rfl
theorem ev_cdX10_add : (ev_chunk 4)[78]? = some (Jvm.Cond.code yX10_add cX10_add 2 (none)) := rfl
theorem ev_cdX10_copy : (ev_chunk 5)[96]? = some (Jvm.Cond.code yX10_copy cX10_copy 2 (none)) := rfl
theorem ev_cdX10_splice : (ev_chunk 7)[140]? = some (Jvm.Cond.code yX10_splice cX10_splice 8 (none)) := rfl
theorem ev_cdX10_isSuch : (ev_chunk 6)[164]? = some (Jvm.Cond.code yX10_isSuch cX10_isSuch 3 (some .boolean)) := rfl
theorem ev_cdX11_init : (ev_chunk 3)[75]? = some (Jvm.Cond.code yX11_init cX11_init 3 (none)) := rfl
theorem ev_cdX11_run : (ev_chunk 7)[12]? = some (Jvm.Cond.code yX11_run cX11_run 5 (none)) := rfl
theorem ev_cdX11_begin : (ev_chunk 7)[16]? = some (Jvm.Cond.code yX11_begin cX11_begin 2 (none)) := rfl
theorem ev_cdX11_spanOf : (ev_chunk 7)[46]? = some (Jvm.Cond.code yX11_spanOf cX11_spanOf 2 (some .int)) := rfl
theorem ev_cdX11_settle : (ev_chunk 7)[20]? = some (Jvm.Cond.code yX11_settle cX11_settle 6 (none)) := rfl
theorem ev_cdX11_pass : (ev_chunk 7)[40]? = some (Jvm.Cond.code yX11_pass cX11_pass 9 (none)) := rfl
theorem ev_cdX11_addThread : (ev_chunk 7)[25]? = some (Jvm.Cond.code yX11_addThread cX11_addThread 7 (none)) := rfl
theorem ev_cdX11_follow : (ev_chunk 7)[34]? = some (Jvm.Cond.code yX11_follow cX11_follow 5 (none)) := rfl
theorem ev_cdX11_push : (ev_chunk 7)[29]? = some (Jvm.Cond.code yX11_push cX11_push 3 (none)) := rfl
theorem ev_cdX12_init : (ev_chunk 1)[29]? = some (Jvm.Cond.code yX12_init cX12_init 2 (none)) := rfl
theorem ev_cdX12_type : (ev_chunk 3)[224]? = some (Jvm.Cond.code yX12_type cX12_type 4 (some .int)) := rfl
theorem ev_cdX12_clear : (ev_chunk 3)[215]? = some (Jvm.Cond.code yX12_clear cX12_clear 2 (some .int)) := rfl
theorem ev_cdX12_part : (ev_chunk 4)[85]? = some (Jvm.Cond.code yX12_part cX12_part 2 (some .int)) := rfl
theorem ev_cdX12_pattern : (ev_chunk 5)[106]? = some (Jvm.Cond.code yX12_pattern cX12_pattern 2 (some .int)) := rfl
theorem ev_cdX12_template : (ev_chunk 6)[12]? = some (Jvm.Cond.code yX12_template cX12_template 1 (some .int)) := rfl
theorem ev_cdX12_groups : (ev_chunk 6)[32]? = some (Jvm.Cond.code yX12_groups cX12_groups 3 (some .int)) := rfl
theorem ev_cdX12_least : (ev_chunk 6)[59]? = some (Jvm.Cond.code yX12_least cX12_least 3 (some .int)) := rfl
theorem ev_cdX12_begins : (ev_chunk 6)[66]? = some (Jvm.Cond.code yX12_begins cX12_begins 4 (some .boolean)) := rfl
theorem ev_cdX12_literal : (ev_chunk 6)[75]? = some (Jvm.Cond.code yX12_literal cX12_literal 4 (some .int)) := rfl
theorem ev_cdX12_runaway : (ev_chunk 6)[84]? = some (Jvm.Cond.code yX12_runaway cX12_runaway 3 (some .int)) := rfl
theorem ev_cdX12_find : (ev_chunk 6)[91]? = some (Jvm.Cond.code yX12_find cX12_find 5 (some .int)) := rfl
theorem ev_cdX12_anew : (ev_chunk 6)[236]? = some (Jvm.Cond.code yX12_anew cX12_anew 5 (some .int)) := rfl
theorem ev_cdX12_by : (ev_chunk 7)[3]? = some (Jvm.Cond.code yX12_by cX12_by 6 (some .int)) := rfl
theorem ev_cdX12_steps : (ev_chunk 7)[53]? = some (Jvm.Cond.code yX12_steps cX12_steps 6 (some .int)) := rfl
theorem ev_cdX12_back : (ev_chunk 7)[61]? = some (Jvm.Cond.code yX12_back cX12_back 6 (some .int)) := rfl
theorem ev_cdX12_matches : (ev_chunk 7)[72]? = some (Jvm.Cond.code yX12_matches cX12_matches 9 (some .int)) := rfl
theorem ev_cdX12_match : (ev_chunk 7)[84]? = some (Jvm.Cond.code yX12_match cX12_match 9 (some .int)) := rfl
theorem ev_cdX12_fill : (ev_chunk 7)[93]? = some (Jvm.Cond.code yX12_fill cX12_fill 3 (some .int)) := rfl
theorem ev_cdX12_size : (ev_chunk 7)[155]? = some (Jvm.Cond.code yX12_size cX12_size 3 (some .int)) := rfl
theorem ev_cdX12_sign : (ev_chunk 7)[162]? = some (Jvm.Cond.code yX12_sign cX12_sign 4 (some .char)) := rfl
theorem ev_cdX12_replace : (ev_chunk 7)[170]? = some (Jvm.Cond.code yX12_replace cX12_replace 9 (some .int)) := rfl
theorem ev_cdX12_mark : (ev_chunk 8)[14]? = some (Jvm.Cond.code yX12_mark cX12_mark 6 (some .int)) := rfl
theorem ev_cdX12_place : (ev_chunk 8)[27]? = some (Jvm.Cond.code yX12_place cX12_place 2 (some .int)) := rfl
theorem ev_cdX12_open : (ev_chunk 8)[35]? = some (Jvm.Cond.code yX12_open cX12_open 1 (some .int)) := rfl
theorem ev_cdX12_shut : (ev_chunk 8)[43]? = some (Jvm.Cond.code yX12_shut cX12_shut 1 (some .int)) := rfl
theorem ev_cdX12_undo : (ev_chunk 8)[51]? = some (Jvm.Cond.code yX12_undo cX12_undo 1 (some .int)) := rfl
theorem ev_cdX12_redo : (ev_chunk 8)[67]? = some (Jvm.Cond.code yX12_redo cX12_redo 1 (some .int)) := rfl
theorem ev_cdX12_record : (ev_chunk 8)[78]? = some (Jvm.Cond.code yX12_record cX12_record 1 (some .int)) := rfl
theorem ev_cdX12_play : (ev_chunk 8)[86]? = some (Jvm.Cond.code yX12_play cX12_play 11 (some .int)) := rfl
theorem ev_cdX12_stream : (ev_chunk 8)[95]? = some (Jvm.Cond.code yX12_stream cX12_stream 4 (some .int)) := rfl
theorem ev_cdX12_feed : (ev_chunk 8)[109]? = some (Jvm.Cond.code yX12_feed cX12_feed 3 (some .int)) := rfl
theorem ev_cdX12_finish : (ev_chunk 8)[134]? = some (Jvm.Cond.code yX12_finish cX12_finish 3 (some .int)) := rfl
theorem ev_cdX12_told : (ev_chunk 8)[142]? = some (Jvm.Cond.code yX12_told cX12_told 3 (some .int)) := rfl
theorem ev_cdX12_countSigns : (ev_chunk 3)[227]? = some (Jvm.Cond.code yX12_countSigns cX12_countSigns 4 (some .int)) := rfl
theorem ev_cdX12_patternAt : (ev_chunk 6)[36]? = some (Jvm.Cond.code yX12_patternAt cX12_patternAt 2 (some (.object "MendBench$Pattern"))) := rfl
theorem ev_cdX12_templateAt : (ev_chunk 7)[174]? = some (Jvm.Cond.code yX12_templateAt cX12_templateAt 2 (some (.object "MendBench$Text"))) := rfl
theorem ev_cdX12_streamAt : (ev_chunk 8)[113]? = some (Jvm.Cond.code yX12_streamAt cX12_streamAt 2 (some (.object "MendBench$Stream"))) := rfl
theorem ev_cdX12_isSearch : (ev_chunk 6)[95]? = some (Jvm.Cond.code yX12_isSearch cX12_isSearch 7 (some .boolean)) := rfl
theorem ev_cdX12_findBack : (ev_chunk 6)[104]? = some (Jvm.Cond.code yX12_findBack cX12_findBack 8 (some .int)) := rfl
theorem ev_cdX12_findThreaded : (ev_chunk 7)[8]? = some (Jvm.Cond.code yX12_findThreaded cX12_findThreaded 10 (some .int)) := rfl
theorem ev_cdX12_recordReplacement : (ev_chunk 8)[7]? = some (Jvm.Cond.code yX12_recordReplacement cX12_recordReplacement 5 (none)) := rfl
theorem ev_cdX12_isSign : (ev_chunk 3)[230]? = some (Jvm.Cond.code yX12_isSign cX12_isSign 1 (some .boolean)) := rfl
theorem ev_cdX12_isDigit : (ev_chunk 4)[211]? = some (Jvm.Cond.code yX12_isDigit cX12_isDigit 1 (some .boolean)) := rfl
theorem ev_cdX12_isLower : (ev_chunk 4)[88]? = some (Jvm.Cond.code yX12_isLower cX12_isLower 1 (some .boolean)) := rfl
theorem ev_cdX12_isWord : (ev_chunk 6)[168]? = some (Jvm.Cond.code yX12_isWord cX12_isWord 1 (some .boolean)) := rfl
theorem ev_cdX12_isPlainBehindSlash : (ev_chunk 5)[58]? = some (Jvm.Cond.code yX12_isPlainBehindSlash cX12_isPlainBehindSlash 1 (some .boolean)) := rfl
theorem ev_cdX12_lowered : (ev_chunk 6)[181]? = some (Jvm.Cond.code yX12_lowered cX12_lowered 1 (some .int)) := rfl
theorem ev_cdX12_raised : (ev_chunk 7)[210]? = some (Jvm.Cond.code yX12_raised cX12_raised 1 (some .int)) := rfl
theorem ev_cdX12_hasSign : (ev_chunk 5)[164]? = some (Jvm.Cond.code yX12_hasSign cX12_hasSign 5 (some .boolean)) := rfl
theorem ev_cdX12_foldedHigh : (ev_chunk 5)[62]? = some (Jvm.Cond.code yX12_foldedHigh cX12_foldedHigh 2 (some .long)) := rfl
theorem ev_cdX12_isKindLetter : (ev_chunk 5)[34]? = some (Jvm.Cond.code yX12_isKindLetter cX12_isKindLetter 1 (some .boolean)) := rfl
theorem ev_cdX12_kindLow : (ev_chunk 5)[37]? = some (Jvm.Cond.code yX12_kindLow cX12_kindLow 1 (some .long)) := rfl
theorem ev_cdX12_kindHigh : (ev_chunk 5)[44]? = some (Jvm.Cond.code yX12_kindHigh cX12_kindHigh 1 (some .long)) := rfl
theorem ev_cdX13_init : (ev_chunk 8)[147]? = some (Jvm.Cond.code yX13_init cX13_init 2 (none)) := rfl
theorem ev_cdX13_thrown : (ev_chunk 10)[113]? = some (Jvm.Cond.code yX13_thrown cX13_thrown 1 (some .int)) := rfl
theorem ev_cdX13_fails : (ev_chunk 10)[127]? = some (Jvm.Cond.code yX13_fails cX13_fails 2 (some .int)) := rfl
theorem ev_cdX13_in : (ev_chunk 10)[123]? = some (Jvm.Cond.code yX13_in cX13_in 3 (some .boolean)) := rfl
theorem ev_cdX13_isSign : (ev_chunk 10)[120]? = some (Jvm.Cond.code yX13_isSign cX13_isSign 1 (some .boolean)) := rfl
theorem ev_cdX13_isLower : (ev_chunk 10)[138]? = some (Jvm.Cond.code yX13_isLower cX13_isLower 1 (some .boolean)) := rfl
theorem ev_cdX13_isLetter : (ev_chunk 10)[191]? = some (Jvm.Cond.code yX13_isLetter cX13_isLetter 1 (some .boolean)) := rfl
theorem ev_cdX13_isDigit : (ev_chunk 10)[177]? = some (Jvm.Cond.code yX13_isDigit cX13_isDigit 1 (some .boolean)) := rfl
theorem ev_cdX13_isWord : (ev_chunk 10)[198]? = some (Jvm.Cond.code yX13_isWord cX13_isWord 1 (some .boolean)) := rfl
theorem ev_cdX13_isEscaped : (ev_chunk 10)[215]? = some (Jvm.Cond.code yX13_isEscaped cX13_isEscaped 1 (some .boolean)) := rfl
theorem ev_cdX13_other : (ev_chunk 11)[8]? = some (Jvm.Cond.code yX13_other cX13_other 1 (some .int)) := rfl
theorem ev_cdX13_type : (ev_chunk 10)[117]? = some (Jvm.Cond.code yX13_type cX13_type 6 (some .int)) := rfl
theorem ev_cdX13_clear : (ev_chunk 10)[131]? = some (Jvm.Cond.code yX13_clear cX13_clear 2 (some .int)) := rfl
theorem ev_cdX13_base : (ev_chunk 10)[150]? = some (Jvm.Cond.code yX13_base cX13_base 1 (some .int)) := rfl
theorem ev_cdX13_peek : (ev_chunk 10)[158]? = some (Jvm.Cond.code yX13_peek cX13_peek 4 (some .int)) := rfl
theorem ev_cdX13_goes : (ev_chunk 10)[170]? = some (Jvm.Cond.code yX13_goes cX13_goes 2 (none)) := rfl
theorem ev_cdX13_makes : (ev_chunk 10)[146]? = some (Jvm.Cond.code yX13_makes cX13_makes 4 (some .int)) := rfl
theorem ev_cdX13_counts : (ev_chunk 10)[181]? = some (Jvm.Cond.code yX13_counts cX13_counts 1 (none)) := rfl
theorem ev_cdX13_adds : (ev_chunk 10)[212]? = some (Jvm.Cond.code yX13_adds cX13_adds 3 (some .int)) := rfl
theorem ev_cdX13_addsSet : (ev_chunk 10)[208]? = some (Jvm.Cond.code yX13_addsSet cX13_addsSet 6 (none)) := rfl
theorem ev_cdX13_opens : (ev_chunk 10)[154]? = some (Jvm.Cond.code yX13_opens cX13_opens 3 (none)) := rfl
theorem ev_cdX13_shuts : (ev_chunk 11)[36]? = some (Jvm.Cond.code yX13_shuts cX13_shuts 1 (none)) := rfl
theorem ev_cdX13_parts : (ev_chunk 11)[40]? = some (Jvm.Cond.code yX13_parts cX13_parts 4 (none)) := rfl
theorem ev_cdX13_oneOf : (ev_chunk 10)[201]? = some (Jvm.Cond.code yX13_oneOf cX13_oneOf 2 (some .long)) := rfl
theorem ev_cdX13_twoOf : (ev_chunk 10)[204]? = some (Jvm.Cond.code yX13_twoOf cX13_twoOf 2 (some .long)) := rfl
theorem ev_cdX13_isOf : (ev_chunk 11)[113]? = some (Jvm.Cond.code yX13_isOf cX13_isOf 5 (some .boolean)) := rfl
theorem ev_cdX13_ranges : (ev_chunk 11)[5]? = some (Jvm.Cond.code yX13_ranges cX13_ranges 5 (none)) := rfl
theorem ev_cdX13_sorts : (ev_chunk 10)[195]? = some (Jvm.Cond.code yX13_sorts cX13_sorts 5 (none)) := rfl
theorem ev_cdX13_isSort : (ev_chunk 10)[188]? = some (Jvm.Cond.code yX13_isSort cX13_isSort 2 (some .boolean)) := rfl
theorem ev_cdX13_joins : (ev_chunk 10)[231]? = some (Jvm.Cond.code yX13_joins cX13_joins 2 (none)) := rfl
theorem ev_cdX13_takes : (ev_chunk 10)[237]? = some (Jvm.Cond.code yX13_takes cX13_takes 2 (none)) := rfl
theorem ev_cdX13_single : (ev_chunk 10)[227]? = some (Jvm.Cond.code yX13_single cX13_single 4 (some .int)) := rfl
theorem ev_cdX13_singleAt : (ev_chunk 11)[1]? = some (Jvm.Cond.code yX13_singleAt cX13_singleAt 3 (some .int)) := rfl
theorem ev_cdX13_beginsClass : (ev_chunk 10)[223]? = some (Jvm.Cond.code yX13_beginsClass cX13_beginsClass 2 (none)) := rfl
theorem ev_cdX13_klass : (ev_chunk 10)[219]? = some (Jvm.Cond.code yX13_klass cX13_klass 8 (none)) := rfl
theorem ev_cdX13_number : (ev_chunk 10)[174]? = some (Jvm.Cond.code yX13_number cX13_number 3 (some .int)) := rfl
theorem ev_cdX13_repeats : (ev_chunk 10)[166]? = some (Jvm.Cond.code yX13_repeats cX13_repeats 6 (none)) := rfl
theorem ev_cdX13_escapes : (ev_chunk 10)[185]? = some (Jvm.Cond.code yX13_escapes cX13_escapes 3 (none)) := rfl
theorem ev_cdX13_lettersOf : (ev_chunk 11)[28]? = some (Jvm.Cond.code yX13_lettersOf cX13_lettersOf 3 (some .int)) := rfl
theorem ev_cdX13_switches : (ev_chunk 11)[24]? = some (Jvm.Cond.code yX13_switches cX13_switches 4 (none)) := rfl
theorem ev_cdX13_group : (ev_chunk 11)[16]? = some (Jvm.Cond.code yX13_group cX13_group 3 (none)) := rfl
theorem ev_cdX13_includes : (ev_chunk 11)[20]? = some (Jvm.Cond.code yX13_includes cX13_includes 4 (none)) := rfl
theorem ev_cdX13_asks : (ev_chunk 11)[12]? = some (Jvm.Cond.code yX13_asks cX13_asks 5 (none)) := rfl
theorem ev_cdX13_verbs : (ev_chunk 11)[32]? = some (Jvm.Cond.code yX13_verbs cX13_verbs 3 (none)) := rfl
theorem ev_cdX13_reads : (ev_chunk 10)[162]? = some (Jvm.Cond.code yX13_reads cX13_reads 4 (none)) := rfl
theorem ev_cdX13_checks : (ev_chunk 11)[45]? = some (Jvm.Cond.code yX13_checks cX13_checks 3 (none)) := rfl
theorem ev_cdX13_readsAll : (ev_chunk 10)[142]? = some (Jvm.Cond.code yX13_readsAll cX13_readsAll 3 (some .int)) := rfl
theorem ev_cdX13_capped : (ev_chunk 11)[63]? = some (Jvm.Cond.code yX13_capped cX13_capped 2 (some .int)) := rfl
theorem ev_cdX13_isPart : (ev_chunk 11)[60]? = some (Jvm.Cond.code yX13_isPart cX13_isPart 1 (some .boolean)) := rfl
theorem ev_cdX13_facts : (ev_chunk 11)[57]? = some (Jvm.Cond.code yX13_facts cX13_facts 14 (none)) := rfl
theorem ev_cdX13_enginesOf : (ev_chunk 11)[70]? = some (Jvm.Cond.code yX13_enginesOf cX13_enginesOf 6 (some .int)) := rfl
theorem ev_cdX13_keeps : (ev_chunk 11)[53]? = some (Jvm.Cond.code yX13_keeps cX13_keeps 5 (none)) := rfl
theorem ev_cdX13_part : (ev_chunk 10)[135]? = some (Jvm.Cond.code yX13_part cX13_part 4 (some .int)) := rfl
theorem ev_cdX13_pattern : (ev_chunk 11)[49]? = some (Jvm.Cond.code yX13_pattern cX13_pattern 1 (some .int)) := rfl
theorem ev_cdX13_isPattern : (ev_chunk 11)[98]? = some (Jvm.Cond.code yX13_isPattern cX13_isPattern 2 (some .boolean)) := rfl
theorem ev_cdX13_groups : (ev_chunk 11)[94]? = some (Jvm.Cond.code yX13_groups cX13_groups 2 (some .int)) := rfl
theorem ev_cdX13_least : (ev_chunk 11)[102]? = some (Jvm.Cond.code yX13_least cX13_least 2 (some .int)) := rfl
theorem ev_cdX13_marksBegins : (ev_chunk 11)[110]? = some (Jvm.Cond.code yX13_marksBegins cX13_marksBegins 10 (none)) := rfl
theorem ev_cdX13_begins : (ev_chunk 11)[106]? = some (Jvm.Cond.code yX13_begins cX13_begins 3 (some .boolean)) := rfl
theorem ev_cdX13_only : (ev_chunk 11)[121]? = some (Jvm.Cond.code yX13_only cX13_only 5 (some .int)) := rfl
theorem ev_cdX13_literal : (ev_chunk 11)[117]? = some (Jvm.Cond.code yX13_literal cX13_literal 13 (some .int)) := rfl
theorem ev_cdX13_marksJust : (ev_chunk 11)[133]? = some (Jvm.Cond.code yX13_marksJust cX13_marksJust 11 (none)) := rfl
theorem ev_cdX13_isJust : (ev_chunk 11)[137]? = some (Jvm.Cond.code yX13_isJust cX13_isJust 3 (some .boolean)) := rfl
theorem ev_cdX13_isEndless : (ev_chunk 11)[145]? = some (Jvm.Cond.code yX13_isEndless cX13_isEndless 2 (some .boolean)) := rfl
theorem ev_cdX13_lays : (ev_chunk 11)[129]? = some (Jvm.Cond.code yX13_lays cX13_lays 5 (none)) := rfl
theorem ev_cdX13_isShut : (ev_chunk 11)[149]? = some (Jvm.Cond.code yX13_isShut cX13_isShut 2 (some .boolean)) := rfl
theorem ev_cdX13_isRunning : (ev_chunk 11)[141]? = some (Jvm.Cond.code yX13_isRunning cX13_isRunning 10 (some .boolean)) := rfl
theorem ev_cdX13_isOpen : (ev_chunk 11)[153]? = some (Jvm.Cond.code yX13_isOpen cX13_isOpen 5 (some .boolean)) := rfl
theorem ev_cdX13_runaway : (ev_chunk 11)[125]? = some (Jvm.Cond.code yX13_runaway cX13_runaway 4 (some .int)) := rfl
theorem ev_cdX13_loads : (ev_chunk 11)[205]? = some (Jvm.Cond.code yX13_loads cX13_loads 3 (none)) := rfl
theorem ev_cdX13_isWordAt : (ev_chunk 12)[5]? = some (Jvm.Cond.code yX13_isWordAt cX13_isWordAt 2 (some .boolean)) := rfl
theorem ev_cdX13_step1 : (ev_chunk 11)[229]? = some (Jvm.Cond.code yX13_step1 cX13_step1 1 (none)) := rfl
theorem ev_cdX13_frame : (ev_chunk 11)[217]? = some (Jvm.Cond.code yX13_frame cX13_frame 7 (some .int)) := rfl
theorem ev_cdX13_chooses : (ev_chunk 11)[233]? = some (Jvm.Cond.code yX13_chooses cX13_chooses 4 (none)) := rfl
theorem ev_cdX13_returns : (ev_chunk 12)[33]? = some (Jvm.Cond.code yX13_returns cX13_returns 2 (none)) := rfl
theorem ev_cdX13_entry : (ev_chunk 12)[13]? = some (Jvm.Cond.code yX13_entry cX13_entry 3 (some .int)) := rfl
theorem ev_cdX13_isEdge : (ev_chunk 12)[1]? = some (Jvm.Cond.code yX13_isEdge cX13_isEdge 6 (some .boolean)) := rfl
theorem ev_cdX13_passes : (ev_chunk 12)[9]? = some (Jvm.Cond.code yX13_passes cX13_passes 9 (some .boolean)) := rfl
theorem ev_cdX13_looksBehind : (ev_chunk 12)[17]? = some (Jvm.Cond.code yX13_looksBehind cX13_looksBehind 3 (none)) := rfl
theorem ev_cdX13_shutsIn : (ev_chunk 11)[225]? = some (Jvm.Cond.code yX13_shutsIn cX13_shutsIn 5 (none)) := rfl
theorem ev_cdX13_atomOf : (ev_chunk 11)[237]? = some (Jvm.Cond.code yX13_atomOf cX13_atomOf 5 (none)) := rfl
theorem ev_cdX13_round : (ev_chunk 12)[37]? = some (Jvm.Cond.code yX13_round cX13_round 3 (none)) := rfl
theorem ev_cdX13_repeatOf : (ev_chunk 12)[41]? = some (Jvm.Cond.code yX13_repeatOf cX13_repeatOf 3 (none)) := rfl
theorem ev_cdX13_rowOf : (ev_chunk 12)[21]? = some (Jvm.Cond.code yX13_rowOf cX13_rowOf 3 (none)) := rfl
theorem ev_cdX13_itemOf : (ev_chunk 11)[221]? = some (Jvm.Cond.code yX13_itemOf cX13_itemOf 2 (none)) := rfl
theorem ev_cdX13_proceeds : (ev_chunk 12)[25]? = some (Jvm.Cond.code yX13_proceeds cX13_proceeds 5 (none)) := rfl
theorem ev_cdX13_fallsBack : (ev_chunk 12)[29]? = some (Jvm.Cond.code yX13_fallsBack cX13_fallsBack 8 (some .int)) := rfl
theorem ev_cdX13_tries : (ev_chunk 11)[213]? = some (Jvm.Cond.code yX13_tries cX13_tries 5 (some .int)) := rfl
theorem ev_cdX13_keepsGroups : (ev_chunk 12)[45]? = some (Jvm.Cond.code yX13_keepsGroups cX13_keepsGroups 4 (none)) := rfl
theorem ev_cdX13_searches : (ev_chunk 11)[209]? = some (Jvm.Cond.code yX13_searches cX13_searches 6 (some .int)) := rfl
theorem ev_cdX13_emits : (ev_chunk 11)[82]? = some (Jvm.Cond.code yX13_emits cX13_emits 6 (some .int)) := rfl
theorem ev_cdX13_asks1 : (ev_chunk 11)[78]? = some (Jvm.Cond.code yX13_asks1 cX13_asks1 4 (none)) := rfl
theorem ev_cdX13_copies : (ev_chunk 11)[86]? = some (Jvm.Cond.code yX13_copies cX13_copies 5 (none)) := rfl
theorem ev_cdX13_patches : (ev_chunk 11)[90]? = some (Jvm.Cond.code yX13_patches cX13_patches 4 (none)) := rfl
theorem ev_cdX13_writes : (ev_chunk 11)[74]? = some (Jvm.Cond.code yX13_writes cX13_writes 7 (none)) := rfl
theorem ev_cdX13_runs : (ev_chunk 12)[66]? = some (Jvm.Cond.code yX13_runs cX13_runs 10 (some .boolean)) := rfl
theorem ev_cdX13_finds : (ev_chunk 12)[62]? = some (Jvm.Cond.code yX13_finds cX13_finds 5 (some .boolean)) := rfl
theorem ev_cdX13_marksEnds : (ev_chunk 11)[181]? = some (Jvm.Cond.code yX13_marksEnds cX13_marksEnds 8 (none)) := rfl
theorem ev_cdX13_addsThread : (ev_chunk 11)[177]? = some (Jvm.Cond.code yX13_addsThread cX13_addsThread 8 (none)) := rfl
theorem ev_cdX13_threadsOf : (ev_chunk 11)[173]? = some (Jvm.Cond.code yX13_threadsOf cX13_threadsOf 10 (some .int)) := rfl
theorem ev_cdX13_tells : (ev_chunk 11)[169]? = some (Jvm.Cond.code yX13_tells cX13_tells 5 (some .int)) := rfl
theorem ev_cdX13_isStream : (ev_chunk 11)[165]? = some (Jvm.Cond.code yX13_isStream cX13_isStream 2 (some .boolean)) := rfl
theorem ev_cdX13_stream : (ev_chunk 11)[157]? = some (Jvm.Cond.code yX13_stream cX13_stream 3 (some .int)) := rfl
theorem ev_cdX13_feed : (ev_chunk 11)[161]? = some (Jvm.Cond.code yX13_feed cX13_feed 3 (some .int)) := rfl
theorem ev_cdX13_finish : (ev_chunk 11)[185]? = some (Jvm.Cond.code yX13_finish cX13_finish 2 (some .int)) := rfl
theorem ev_cdX13_told : (ev_chunk 11)[189]? = some (Jvm.Cond.code yX13_told cX13_told 2 (some .int)) := rfl
theorem ev_cdX13_isBuffer : (ev_chunk 11)[201]? = some (Jvm.Cond.code yX13_isBuffer cX13_isBuffer 2 (some .boolean)) := rfl
theorem ev_cdX13_isAt : (ev_chunk 11)[197]? = some (Jvm.Cond.code yX13_isAt cX13_isAt 3 (some .boolean)) := rfl
theorem ev_cdX13_tellsGroup : (ev_chunk 12)[49]? = some (Jvm.Cond.code yX13_tellsGroup cX13_tellsGroup 3 (some .int)) := rfl
theorem ev_cdX13_find : (ev_chunk 11)[193]? = some (Jvm.Cond.code yX13_find cX13_find 5 (some .int)) := rfl
theorem ev_cdX13_anew : (ev_chunk 12)[53]? = some (Jvm.Cond.code yX13_anew cX13_anew 5 (some .int)) := rfl
theorem ev_cdX13_by : (ev_chunk 12)[58]? = some (Jvm.Cond.code yX13_by cX13_by 6 (some .int)) := rfl
theorem ev_cdX13_steps : (ev_chunk 12)[70]? = some (Jvm.Cond.code yX13_steps cX13_steps 4 (some .int)) := rfl
theorem ev_cdX13_back : (ev_chunk 12)[74]? = some (Jvm.Cond.code yX13_back cX13_back 4 (some .int)) := rfl
theorem ev_cdX13_behindOf : (ev_chunk 12)[82]? = some (Jvm.Cond.code yX13_behindOf cX13_behindOf 2 (some .int)) := rfl
theorem ev_cdX13_matches : (ev_chunk 12)[78]? = some (Jvm.Cond.code yX13_matches cX13_matches 6 (some .int)) := rfl
theorem ev_cdX13_match : (ev_chunk 12)[86]? = some (Jvm.Cond.code yX13_match cX13_match 6 (some .int)) := rfl
theorem ev_cdX13_isTemplate : (ev_chunk 12)[94]? = some (Jvm.Cond.code yX13_isTemplate cX13_isTemplate 8 (some .boolean)) := rfl
theorem ev_cdX13_template : (ev_chunk 12)[90]? = some (Jvm.Cond.code yX13_template cX13_template 2 (some .int)) := rfl
theorem ev_cdX13_puts : (ev_chunk 12)[147]? = some (Jvm.Cond.code yX13_puts cX13_puts 3 (none)) := rfl
theorem ev_cdX13_hasGroup : (ev_chunk 12)[143]? = some (Jvm.Cond.code yX13_hasGroup cX13_hasGroup 3 (some .boolean)) := rfl
theorem ev_cdX13_fills : (ev_chunk 12)[139]? = some (Jvm.Cond.code yX13_fills cX13_fills 15 (none)) := rfl
theorem ev_cdX13_edits : (ev_chunk 12)[111]? = some (Jvm.Cond.code yX13_edits cX13_edits 11 (none)) := rfl
theorem ev_cdX13_writesLetter : (ev_chunk 12)[107]? = some (Jvm.Cond.code yX13_writesLetter cX13_writesLetter 2 (none)) := rfl
theorem ev_cdX13_edit : (ev_chunk 12)[102]? = some (Jvm.Cond.code yX13_edit cX13_edit 9 (none)) := rfl
theorem ev_cdX13_gathers : (ev_chunk 12)[119]? = some (Jvm.Cond.code yX13_gathers cX13_gathers 1 (none)) := rfl
theorem ev_cdX13_ends1 : (ev_chunk 12)[115]? = some (Jvm.Cond.code yX13_ends1 cX13_ends1 1 (none)) := rfl
theorem ev_cdX13_fill : (ev_chunk 12)[98]? = some (Jvm.Cond.code yX13_fill cX13_fill 2 (some .int)) := rfl
theorem ev_cdX13_size : (ev_chunk 12)[123]? = some (Jvm.Cond.code yX13_size cX13_size 2 (some .int)) := rfl
theorem ev_cdX13_sign : (ev_chunk 12)[127]? = some (Jvm.Cond.code yX13_sign cX13_sign 3 (some .char)) := rfl
theorem ev_cdX13_prepares : (ev_chunk 12)[135]? = some (Jvm.Cond.code yX13_prepares cX13_prepares 8 (some .int)) := rfl
theorem ev_cdX13_replaces : (ev_chunk 12)[151]? = some (Jvm.Cond.code yX13_replaces cX13_replaces 4 (none)) := rfl
theorem ev_cdX13_replace : (ev_chunk 12)[131]? = some (Jvm.Cond.code yX13_replace cX13_replace 7 (some .int)) := rfl
theorem ev_cdX13_mark : (ev_chunk 12)[155]? = some (Jvm.Cond.code yX13_mark cX13_mark 4 (some .int)) := rfl
theorem ev_cdX13_place : (ev_chunk 12)[159]? = some (Jvm.Cond.code yX13_place cX13_place 2 (some .int)) := rfl
theorem ev_cdX13_open : (ev_chunk 12)[163]? = some (Jvm.Cond.code yX13_open cX13_open 1 (some .int)) := rfl
theorem ev_cdX13_shut : (ev_chunk 12)[167]? = some (Jvm.Cond.code yX13_shut cX13_shut 1 (some .int)) := rfl
theorem ev_cdX13_editsOf : (ev_chunk 12)[175]? = some (Jvm.Cond.code yX13_editsOf cX13_editsOf 2 (some .int)) := rfl
theorem ev_cdX13_undo : (ev_chunk 12)[171]? = some (Jvm.Cond.code yX13_undo cX13_undo 6 (some .int)) := rfl
theorem ev_cdX13_redo : (ev_chunk 12)[179]? = some (Jvm.Cond.code yX13_redo cX13_redo 6 (some .int)) := rfl
theorem ev_cdX13_record : (ev_chunk 12)[183]? = some (Jvm.Cond.code yX13_record cX13_record 1 (some .int)) := rfl
theorem ev_cdX13_tries1 : (ev_chunk 12)[191]? = some (Jvm.Cond.code yX13_tries1 cX13_tries1 7 (none)) := rfl
theorem ev_cdX13_play : (ev_chunk 12)[187]? = some (Jvm.Cond.code yX13_play cX13_play 6 (some .int)) := rfl
theorem ev_cdJ13_bitCount_95d88 : (ev_chunk 5)[179]? = some (Jvm.Cond.code yJ13_bitCount_95d88 cJ13_bitCount_95d88 2 (some .int)) := rfl
theorem ev_cdJ7_fill_53178 : (ev_chunk 4)[100]? = some (Jvm.Cond.code yJ7_fill_53178 cJ7_fill_53178 4 (none)) := rfl
theorem ev_cdL_type : (ev_chunk 3)[218]? = some (Jvm.Cond.codeWith yL_type cL_type 4 (some .int) [(0, 9, 12, 13), (0, 9, 15, 15)]) := rfl
theorem ev_cdL_part : (ev_chunk 4)[81]? = some (Jvm.Cond.codeWith yL_part cL_part 4 (some .int) [(0, 9, 12, 13)]) := rfl
theorem ev_cdL_pattern : (ev_chunk 5)[102]? = some (Jvm.Cond.codeWith yL_pattern cL_pattern 3 (some .int) [(0, 8, 11, 15)]) := rfl
theorem ev_cdL_template : (ev_chunk 6)[8]? = some (Jvm.Cond.codeWith yL_template cL_template 3 (some .int) [(0, 8, 11, 15)]) := rfl
theorem ev_cdL_groups : (ev_chunk 6)[27]? = some (Jvm.Cond.codeWith yL_groups cL_groups 4 (some .int) [(0, 9, 12, 30)]) := rfl
theorem ev_cdL_least : (ev_chunk 6)[55]? = some (Jvm.Cond.codeWith yL_least cL_least 4 (some .int) [(0, 9, 12, 30)]) := rfl
theorem ev_cdL_begins : (ev_chunk 6)[62]? = some (Jvm.Cond.codeWith yL_begins cL_begins 5 (some .int) [(0, 17, 20, 30), (0, 17, 24, 13)]) := rfl
theorem ev_cdL_literal : (ev_chunk 6)[71]? = some (Jvm.Cond.codeWith yL_literal cL_literal 5 (some .int) [(0, 10, 13, 30), (0, 10, 17, 13)]) := rfl
theorem ev_cdL_runaway : (ev_chunk 6)[80]? = some (Jvm.Cond.codeWith yL_runaway cL_runaway 4 (some .int) [(0, 9, 12, 30)]) := rfl
theorem ev_cdL_find : (ev_chunk 6)[87]? = some (Jvm.Cond.codeWith yL_find cL_find 7 (some .int) [(0, 14, 17, 30)]) := rfl
theorem ev_cdL_anew : (ev_chunk 6)[232]? = some (Jvm.Cond.codeWith yL_anew cL_anew 7 (some .int) [(0, 14, 17, 30)]) := rfl
theorem ev_cdL_by : (ev_chunk 6)[239]? = some (Jvm.Cond.codeWith yL_by cL_by 8 (some .int) [(0, 16, 19, 30), (0, 16, 23, 13)]) := rfl
theorem ev_cdL_steps : (ev_chunk 7)[49]? = some (Jvm.Cond.codeWith yL_steps cL_steps 6 (some .int) [(0, 12, 15, 30)]) := rfl
theorem ev_cdL_back : (ev_chunk 7)[57]? = some (Jvm.Cond.codeWith yL_back cL_back 6 (some .int) [(0, 12, 15, 30)]) := rfl
theorem ev_cdL_matches : (ev_chunk 7)[68]? = some (Jvm.Cond.codeWith yL_matches cL_matches 5 (some .int) [(0, 10, 13, 30)]) := rfl
theorem ev_cdL_match : (ev_chunk 7)[80]? = some (Jvm.Cond.codeWith yL_match cL_match 6 (some .int) [(0, 12, 15, 30)]) := rfl
theorem ev_cdL_fill : (ev_chunk 7)[89]? = some (Jvm.Cond.codeWith yL_fill cL_fill 4 (some .int) [(0, 9, 12, 30), (0, 9, 15, 15)]) := rfl
theorem ev_cdL_size : (ev_chunk 7)[151]? = some (Jvm.Cond.codeWith yL_size cL_size 4 (some .int) [(0, 9, 12, 30)]) := rfl
theorem ev_cdL_sign : (ev_chunk 7)[158]? = some (Jvm.Cond.codeWith yL_sign cL_sign 5 (some .int) [(0, 10, 13, 30)]) := rfl
theorem ev_cdL_replace : (ev_chunk 7)[166]? = some (Jvm.Cond.codeWith yL_replace cL_replace 7 (some .int) [(0, 14, 17, 30), (0, 14, 21, 13), (0, 14, 25, 15)]) := rfl
theorem ev_cdL_mark : (ev_chunk 8)[10]? = some (Jvm.Cond.codeWith yL_mark cL_mark 6 (some .int) [(0, 12, 15, 30), (0, 12, 19, 15)]) := rfl
theorem ev_cdL_place : (ev_chunk 8)[23]? = some (Jvm.Cond.codeWith yL_place cL_place 4 (some .int) [(0, 9, 12, 30)]) := rfl
theorem ev_cdL_open : (ev_chunk 8)[31]? = some (Jvm.Cond.codeWith yL_open cL_open 3 (some .int) [(0, 8, 11, 15)]) := rfl
theorem ev_cdL_shut : (ev_chunk 8)[39]? = some (Jvm.Cond.codeWith yL_shut cL_shut 3 (some .int) [(0, 8, 11, 15)]) := rfl
theorem ev_cdL_undo : (ev_chunk 8)[47]? = some (Jvm.Cond.codeWith yL_undo cL_undo 3 (some .int) [(0, 8, 11, 15)]) := rfl
theorem ev_cdL_redo : (ev_chunk 8)[63]? = some (Jvm.Cond.codeWith yL_redo cL_redo 3 (some .int) [(0, 8, 11, 15)]) := rfl
theorem ev_cdL_record : (ev_chunk 8)[74]? = some (Jvm.Cond.codeWith yL_record cL_record 3 (some .int) [(0, 8, 11, 15)]) := rfl
theorem ev_cdL_play : (ev_chunk 8)[82]? = some (Jvm.Cond.codeWith yL_play cL_play 5 (some .int) [(0, 10, 13, 30), (0, 10, 17, 15)]) := rfl
theorem ev_cdL_stream : (ev_chunk 8)[91]? = some (Jvm.Cond.codeWith yL_stream cL_stream 5 (some .int) [(0, 10, 13, 30), (0, 10, 17, 15)]) := rfl
theorem ev_cdL_feed : (ev_chunk 8)[105]? = some (Jvm.Cond.codeWith yL_feed cL_feed 4 (some .int) [(0, 9, 12, 30), (0, 9, 15, 15)]) := rfl
theorem ev_cdL_finish : (ev_chunk 8)[130]? = some (Jvm.Cond.codeWith yL_finish cL_finish 4 (some .int) [(0, 9, 12, 30), (0, 9, 15, 15)]) := rfl
theorem ev_cdL_told : (ev_chunk 8)[138]? = some (Jvm.Cond.codeWith yL_told cL_told 4 (some .int) [(0, 9, 12, 30)]) := rfl
