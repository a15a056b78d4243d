set_option maxRecDepth 100000 in
theorem cd_X0_init : Cond.code yX0_init cX0_init 1 none ∈ q_tb := q_in 127 rfl rfl
set_option maxRecDepth 100000 in
theorem cd_X0_clear : Cond.code yX0_clear cX0_clear 1 none ∈ q_tb := q_in 666 rfl rfl
set_option maxRecDepth 100000 in
theorem cd_X0_lay : Cond.code yX0_lay cX0_lay 5 (some .int) ∈ q_tb := q_in 736 rfl rfl
set_option maxRecDepth 100000 in
theorem cd_X0_junction : Cond.code yX0_junction cX0_junction 1 (some .int) ∈ q_tb := q_in 843 rfl rfl
set_option maxRecDepth 100000 in
theorem cd_X0_join : Cond.code yX0_join cX0_join 2 none ∈ q_tb := q_in 851 rfl rfl
set_option maxRecDepth 100000 in
theorem cd_X0_leadsTo : Cond.code yX0_leadsTo cX0_leadsTo 2 (some .int) ∈ q_tb := q_in 985 rfl rfl
set_option maxRecDepth 100000 in
theorem cd_X0_addArray : Cond.code yX0_addArray cX0_addArray 2 none ∈ q_tb := q_in 723 rfl rfl
set_option maxRecDepth 100000 in
theorem cd_X0_cellsOf : Cond.code yX0_cellsOf cX0_cellsOf 2 (some .int) ∈ q_tb := q_in 959 rfl rfl
set_option maxRecDepth 100000 in
theorem cd_X1_init : Cond.code yX1_init cX1_init 4 none ∈ q_tb := q_in 298 rfl rfl
set_option maxRecDepth 100000 in
theorem cd_X1_begin : Cond.code yX1_begin cX1_begin 2 none ∈ q_tb := q_in 678 rfl rfl
set_option maxRecDepth 100000 in
theorem cd_X1_read : Cond.code yX1_read cX1_read 3 (some .boolean) ∈ q_tb := q_in 752 rfl rfl
set_option maxRecDepth 100000 in
theorem cd_X1_result : Cond.code yX1_result cX1_result 1 (some .int) ∈ q_tb := q_in 820 rfl rfl
set_option maxRecDepth 100000 in
theorem cd_X1_readOperand : Cond.code yX1_readOperand cX1_readOperand 7 (some .boolean) ∈ q_tb := q_in 756 rfl rfl
set_option maxRecDepth 100000 in
theorem cd_X1_readTwo : Cond.code yX1_readTwo cX1_readTwo 2 (some .boolean) ∈ q_tb := q_in 811 rfl rfl
set_option maxRecDepth 100000 in
theorem cd_X1_readClosing : Cond.code yX1_readClosing cX1_readClosing 2 (some .boolean) ∈ q_tb := q_in 815 rfl rfl
set_option maxRecDepth 100000 in
theorem cd_X1_layOperand : Cond.code yX1_layOperand cX1_layOperand 4 none ∈ q_tb := q_in 772 rfl rfl
set_option maxRecDepth 100000 in
theorem cd_X1_layOnes : Cond.code yX1_layOnes cX1_layOnes 1 none ∈ q_tb := q_in 790 rfl rfl
set_option maxRecDepth 100000 in
theorem cd_X1_layTwos : Cond.code yX1_layTwos cX1_layTwos 4 none ∈ q_tb := q_in 807 rfl rfl
set_option maxRecDepth 100000 in
theorem cd_X1_countWorked : Cond.code yX1_countWorked cX1_countWorked 2 none ∈ q_tb := q_in 766 rfl rfl
set_option maxRecDepth 100000 in
theorem cd_X1_await : Cond.code yX1_await cX1_await 3 (some .boolean) ∈ q_tb := q_in 761 rfl rfl
set_option maxRecDepth 100000 in
theorem cd_X1_lastWaiting : Cond.code yX1_lastWaiting cX1_lastWaiting 1 (some .int) ∈ q_tb := q_in 794 rfl rfl
set_option maxRecDepth 100000 in
theorem cd_X1_push : Cond.code yX1_push cX1_push 2 none ∈ q_tb := q_in 777 rfl rfl
set_option maxRecDepth 100000 in
theorem cd_X1_pop : Cond.code yX1_pop cX1_pop 1 (some .int) ∈ q_tb := q_in 798 rfl rfl
set_option maxRecDepth 100000 in
theorem cd_X1_levelOf : Cond.code yX1_levelOf cX1_levelOf 1 (some .int) ∈ q_tb := q_in 802 rfl rfl
set_option maxRecDepth 100000 in
theorem cd_X2_init : Cond.code yX2_init cX2_init 3 none ∈ q_tb := q_in 233 rfl rfl
set_option maxRecDepth 100000 in
theorem cd_X2_faultKind : Cond.code yX2_faultKind cX2_faultKind 1 (some .int) ∈ q_tb := q_in 869 rfl rfl
set_option maxRecDepth 100000 in
theorem cd_X2_faultPlace : Cond.code yX2_faultPlace cX2_faultPlace 1 (some .int) ∈ q_tb := q_in 873 rfl rfl
set_option maxRecDepth 100000 in
theorem cd_X2_make : Cond.code yX2_make cX2_make 2 none ∈ q_tb := q_in 662 rfl rfl
set_option maxRecDepth 100000 in
theorem cd_X2_readArrays : Cond.code yX2_readArrays cX2_readArrays 2 (some .boolean) ∈ q_tb := q_in 682 rfl rfl
set_option maxRecDepth 100000 in
theorem cd_X2_readCells : Cond.code yX2_readCells cX2_readCells 4 (some .boolean) ∈ q_tb := q_in 714 rfl rfl
set_option maxRecDepth 100000 in
theorem cd_X2_readParameters : Cond.code yX2_readParameters cX2_readParameters 3 (some .boolean) ∈ q_tb := q_in 731 rfl rfl
set_option maxRecDepth 100000 in
theorem cd_X2_readNewName : Cond.code yX2_readNewName cX2_readNewName 1 (some .boolean) ∈ q_tb := q_in 694 rfl rfl
set_option maxRecDepth 100000 in
theorem cd_X2_readBlock : Cond.code yX2_readBlock cX2_readBlock 3 (some .boolean) ∈ q_tb := q_in 740 rfl rfl
set_option maxRecDepth 100000 in
theorem cd_X2_readStatement : Cond.code yX2_readStatement cX2_readStatement 1 (some .boolean) ∈ q_tb := q_in 744 rfl rfl
set_option maxRecDepth 100000 in
theorem cd_X2_readTelling : Cond.code yX2_readTelling cX2_readTelling 2 (some .boolean) ∈ q_tb := q_in 748 rfl rfl
set_option maxRecDepth 100000 in
theorem cd_X2_readSetting : Cond.code yX2_readSetting cX2_readSetting 6 (some .boolean) ∈ q_tb := q_in 824 rfl rfl
set_option maxRecDepth 100000 in
theorem cd_X2_readIf : Cond.code yX2_readIf cX2_readIf 3 (some .boolean) ∈ q_tb := q_in 831 rfl rfl
set_option maxRecDepth 100000 in
theorem cd_X2_readWhile : Cond.code yX2_readWhile cX2_readWhile 5 (some .boolean) ∈ q_tb := q_in 856 rfl rfl
set_option maxRecDepth 100000 in
theorem cd_X2_countBranching : Cond.code yX2_countBranching cX2_countBranching 1 none ∈ q_tb := q_in 835 rfl rfl
set_option maxRecDepth 100000 in
theorem cd_X2_readCondition : Cond.code yX2_readCondition cX2_readCondition 1 (some .boolean) ∈ q_tb := q_in 839 rfl rfl
set_option maxRecDepth 100000 in
theorem cd_X2_readBody : Cond.code yX2_readBody cX2_readBody 3 (some .boolean) ∈ q_tb := q_in 847 rfl rfl
set_option maxRecDepth 100000 in
theorem cd_X2_readLeap : Cond.code yX2_readLeap cX2_readLeap 2 (some .boolean) ∈ q_tb := q_in 860 rfl rfl
set_option maxRecDepth 100000 in
theorem cd_X2_readReturn : Cond.code yX2_readReturn cX2_readReturn 1 (some .boolean) ∈ q_tb := q_in 864 rfl rfl
set_option maxRecDepth 100000 in
theorem cd_X3_init : Cond.code yX3_init cX3_init 1 none ∈ q_tb := q_in 360 rfl rfl
set_option maxRecDepth 100000 in
theorem cd_X3_clear : Cond.code yX3_clear cX3_clear 1 none ∈ q_tb := q_in 880 rfl rfl
set_option maxRecDepth 100000 in
theorem cd_X3_begin : Cond.code yX3_begin cX3_begin 1 none ∈ q_tb := q_in 889 rfl rfl
set_option maxRecDepth 100000 in
theorem cd_X3_addRow : Cond.code yX3_addRow cX3_addRow 2 none ∈ q_tb := q_in 901 rfl rfl
set_option maxRecDepth 100000 in
theorem cd_X3_look : Cond.code yX3_look cX3_look 3 (some .int) ∈ q_tb := q_in 970 rfl rfl
set_option maxRecDepth 100000 in
theorem cd_X3_put : Cond.code yX3_put cX3_put 4 none ∈ q_tb := q_in 981 rfl rfl
set_option maxRecDepth 100000 in
theorem cd_X3_fetch : Cond.code yX3_fetch cX3_fetch 3 (some .int) ∈ q_tb := q_in 966 rfl rfl
set_option maxRecDepth 100000 in
theorem cd_X3_store : Cond.code yX3_store cX3_store 4 none ∈ q_tb := q_in 977 rfl rfl
set_option maxRecDepth 100000 in
theorem cd_X3_ask : Cond.code yX3_ask cX3_ask 4 (some .int) ∈ q_tb := q_in 951 rfl rfl
set_option maxRecDepth 100000 in
theorem cd_X3_isThere : Cond.code yX3_isThere cX3_isThere 2 (some .boolean) ∈ q_tb := q_in 973 rfl rfl
set_option maxRecDepth 100000 in
theorem cd_X4_init : Cond.code yX4_init cX4_init 2 none ∈ q_tb := q_in 239 rfl rfl
set_option maxRecDepth 100000 in
theorem cd_X4_begin : Cond.code yX4_begin cX4_begin 1 none ∈ q_tb := q_in 670 rfl rfl
set_option maxRecDepth 100000 in
theorem cd_X4_advance : Cond.code yX4_advance cX4_advance 1 none ∈ q_tb := q_in 674 rfl rfl
set_option maxRecDepth 100000 in
theorem cd_X4_pass : Cond.code yX4_pass cX4_pass 2 (some .boolean) ∈ q_tb := q_in 686 rfl rfl
set_option maxRecDepth 100000 in
theorem cd_X4_enter : Cond.code yX4_enter cX4_enter 2 (some .boolean) ∈ q_tb := q_in 718 rfl rfl
set_option maxRecDepth 100000 in
theorem cd_X4_leave : Cond.code yX4_leave cX4_leave 1 none ∈ q_tb := q_in 727 rfl rfl
set_option maxRecDepth 100000 in
theorem cd_X4_refuse : Cond.code yX4_refuse cX4_refuse 1 (some .boolean) ∈ q_tb := q_in 690 rfl rfl
set_option maxRecDepth 100000 in
theorem cd_X4_blame : Cond.code yX4_blame cX4_blame 3 none ∈ q_tb := q_in 706 rfl rfl
set_option maxRecDepth 100000 in
theorem cd_X5_init : Cond.code yX5_init cX5_init 1 none ∈ q_tb := q_in 278 rfl rfl
set_option maxRecDepth 100000 in
theorem cd_X5_tell : Cond.code yX5_tell cX5_tell 5 none ∈ q_tb := q_in 710 rfl rfl
set_option maxRecDepth 100000 in
theorem cd_X5_find : Cond.code yX5_find cX5_find 4 (some .int) ∈ q_tb := q_in 702 rfl rfl
set_option maxRecDepth 100000 in
theorem cd_X5_numberOf : Cond.code yX5_numberOf cX5_numberOf 2 (some .int) ∈ q_tb := q_in 786 rfl rfl
set_option maxRecDepth 100000 in
theorem cd_X5_faultOfTelling : Cond.code yX5_faultOfTelling cX5_faultOfTelling 3 (some .int) ∈ q_tb := q_in 698 rfl rfl
set_option maxRecDepth 100000 in
theorem cd_X5_faultOfUse : Cond.code yX5_faultOfUse cX5_faultOfUse 3 (some .int) ∈ q_tb := q_in 782 rfl rfl
set_option maxRecDepth 100000 in
theorem cd_X6_init : Cond.code yX6_init cX6_init 1 none ∈ q_tb := q_in 404 rfl rfl
set_option maxRecDepth 100000 in
theorem cd_X6_take : Cond.code yX6_take cX6_take 3 (some .int) ∈ q_tb := q_in 993 rfl rfl
set_option maxRecDepth 100000 in
theorem cd_X7_init : Cond.code yX7_init cX7_init 1 none ∈ q_tb := q_in 184 rfl rfl
set_option maxRecDepth 100000 in
theorem cd_X7_add : Cond.code yX7_add cX7_add 3 none ∈ q_tb := q_in 522 rfl rfl
set_option maxRecDepth 100000 in
theorem cd_X8_init : Cond.code yX8_init cX8_init 2 none ∈ q_tb := q_in 200 rfl rfl
set_option maxRecDepth 100000 in
theorem cd_X8_cut : Cond.code yX8_cut cX8_cut 3 none ∈ q_tb := q_in 530 rfl rfl
set_option maxRecDepth 100000 in
theorem cd_X8_skipBlanks : Cond.code yX8_skipBlanks cX8_skipBlanks 1 none ∈ q_tb := q_in 534 rfl rfl
set_option maxRecDepth 100000 in
theorem cd_X8_cutToken : Cond.code yX8_cutToken cX8_cutToken 2 (some .int) ∈ q_tb := q_in 542 rfl rfl
set_option maxRecDepth 100000 in
theorem cd_X8_cutName : Cond.code yX8_cutName cX8_cutName 5 (some .int) ∈ q_tb := q_in 549 rfl rfl
set_option maxRecDepth 100000 in
theorem cd_X8_cutNumber : Cond.code yX8_cutNumber cX8_cutNumber 3 (some .int) ∈ q_tb := q_in 558 rfl rfl
set_option maxRecDepth 100000 in
theorem cd_X8_cutSign : Cond.code yX8_cutSign cX8_cutSign 5 (some .int) ∈ q_tb := q_in 569 rfl rfl
set_option maxRecDepth 100000 in
theorem cd_X8_byteAt : Cond.code yX8_byteAt cX8_byteAt 2 (some .int) ∈ q_tb := q_in 538 rfl rfl
set_option maxRecDepth 100000 in
theorem cd_X8_isLetter : Cond.code yX8_isLetter cX8_isLetter 1 (some .boolean) ∈ q_tb := q_in 545 rfl rfl
set_option maxRecDepth 100000 in
theorem cd_X8_isDigit : Cond.code yX8_isDigit cX8_isDigit 1 (some .boolean) ∈ q_tb := q_in 552 rfl rfl
set_option maxRecDepth 100000 in
theorem cd_X9_init : Cond.code yX9_init cX9_init 4 none ∈ q_tb := q_in 420 rfl rfl
set_option maxRecDepth 100000 in
theorem cd_X9_forget : Cond.code yX9_forget cX9_forget 1 none ∈ q_tb := q_in 885 rfl rfl
set_option maxRecDepth 100000 in
theorem cd_X9_perform : Cond.code yX9_perform cX9_perform 5 (some .int) ∈ q_tb := q_in 918 rfl rfl
set_option maxRecDepth 100000 in
theorem cd_X9_begin : Cond.code yX9_begin cX9_begin 5 none ∈ q_tb := q_in 923 rfl rfl
set_option maxRecDepth 100000 in
theorem cd_X9_isReady : Cond.code yX9_isReady cX9_isReady 3 (some .boolean) ∈ q_tb := q_in 928 rfl rfl
set_option maxRecDepth 100000 in
theorem cd_X9_work : Cond.code yX9_work cX9_work 7 (some .int) ∈ q_tb := q_in 936 rfl rfl
set_option maxRecDepth 100000 in
theorem cd_X9_beginStep : Cond.code yX9_beginStep cX9_beginStep 1 none ∈ q_tb := q_in 989 rfl rfl
set_option maxRecDepth 100000 in
theorem cd_X9_cellOf : Cond.code yX9_cellOf cX9_cellOf 4 (some .int) ∈ q_tb := q_in 955 rfl rfl
set_option maxRecDepth 100000 in
theorem cd_X9_hand : Cond.code yX9_hand cX9_hand 3 none ∈ q_tb := q_in 944 rfl rfl
set_option maxRecDepth 100000 in
theorem cd_X9_taken : Cond.code yX9_taken cX9_taken 2 (some .int) ∈ q_tb := q_in 940 rfl rfl
set_option maxRecDepth 100000 in
theorem cd_X9_isFull : Cond.code yX9_isFull cX9_isFull 2 (some .boolean) ∈ q_tb := q_in 932 rfl rfl
set_option maxRecDepth 100000 in
theorem cd_X9_isVariable : Cond.code yX9_isVariable cX9_isVariable 1 (some .boolean) ∈ q_tb := q_in 947 rfl rfl
set_option maxRecDepth 100000 in
theorem cd_X9_worked : Cond.code yX9_worked cX9_worked 3 (some .int) ∈ q_tb := q_in 996 rfl rfl
set_option maxRecDepth 100000 in
theorem cd_X9_reckoned : Cond.code yX9_reckoned cX9_reckoned 3 (some .int) ∈ q_tb := q_in 1002 rfl rfl
set_option maxRecDepth 100000 in
theorem cd_X9_truth : Cond.code yX9_truth cX9_truth 1 (some .int) ∈ q_tb := q_in 999 rfl rfl
set_option maxRecDepth 100000 in
theorem cd_X10_init : Cond.code yX10_init cX10_init 1 none ∈ q_tb := q_in 119 rfl rfl
set_option maxRecDepth 100000 in
theorem cd_X10_feed : Cond.code yX10_feed cX10_feed 6 (some .int) ∈ q_tb := q_in 518 rfl rfl
set_option maxRecDepth 100000 in
theorem cd_X10_build : Cond.code yX10_build cX10_build 3 (some .int) ∈ q_tb := q_in 526 rfl rfl
set_option maxRecDepth 100000 in
theorem cd_X10_fault : Cond.code yX10_fault cX10_fault 2 (some .int) ∈ q_tb := q_in 893 rfl rfl
set_option maxRecDepth 100000 in
theorem cd_X10_give : Cond.code yX10_give cX10_give 4 (some .int) ∈ q_tb := q_in 1024 rfl rfl
set_option maxRecDepth 100000 in
theorem cd_X10_poke : Cond.code yX10_poke cX10_poke 5 (some .int) ∈ q_tb := q_in 1097 rfl rfl
set_option maxRecDepth 100000 in
theorem cd_X10_cell : Cond.code yX10_cell cX10_cell 3 (some .int) ∈ q_tb := q_in 1111 rfl rfl
set_option maxRecDepth 100000 in
theorem cd_X10_latency : Cond.code yX10_latency cX10_latency 2 (some .int) ∈ q_tb := q_in 897 rfl rfl
set_option maxRecDepth 100000 in
theorem cd_X10_free : Cond.code yX10_free cX10_free 2 (some .int) ∈ q_tb := q_in 905 rfl rfl
set_option maxRecDepth 100000 in
theorem cd_X10_stall : Cond.code yX10_stall cX10_stall 5 (some .long) ∈ q_tb := q_in 909 rfl rfl
set_option maxRecDepth 100000 in
theorem cd_X10_run : Cond.code yX10_run cX10_run 2 (some .int) ∈ q_tb := q_in 914 rfl rfl
set_option maxRecDepth 100000 in
theorem cd_X10_told : Cond.code yX10_told cX10_told 2 (some .int) ∈ q_tb := q_in 1007 rfl rfl
set_option maxRecDepth 100000 in
theorem cd_X10_write : Cond.code yX10_write cX10_write 3 (some .int) ∈ q_tb := q_in 1118 rfl rfl
set_option maxRecDepth 100000 in
theorem cd_X10_count : Cond.code yX10_count cX10_count 2 (some .int) ∈ q_tb := q_in 1011 rfl rfl
set_option maxRecDepth 100000 in
theorem cd_X10_size : Cond.code yX10_size cX10_size 2 (some .int) ∈ q_tb := q_in 1015 rfl rfl
set_option maxRecDepth 100000 in
theorem cd_X10_isCell : Cond.code yX10_isCell cX10_isCell 3 (some .boolean) ∈ q_tb := q_in 1101 rfl rfl
set_option maxRecDepth 100000 in
theorem cd_X11_init : Cond.code yX11_init cX11_init 1 none ∈ q_tb := q_in 1146 rfl rfl
set_option maxRecDepth 100000 in
theorem cd_X11_clear : Cond.code yX11_clear cX11_clear 1 none ∈ q_tb := q_in 1412 rfl rfl
set_option maxRecDepth 100000 in
theorem cd_X12_init : Cond.code yX12_init cX12_init 1 none ∈ q_tb := q_in 1124 rfl rfl
set_option maxRecDepth 100000 in
theorem cd_X12_thrown : Cond.code yX12_thrown cX12_thrown 1 (some .int) ∈ q_tb := q_in 1354 rfl rfl
set_option maxRecDepth 100000 in
theorem cd_X12_feed : Cond.code yX12_feed cX12_feed 6 (some .int) ∈ q_tb := q_in 1358 rfl rfl
set_option maxRecDepth 100000 in
theorem cd_X12_four : Cond.code yX12_four cX12_four 3 none ∈ q_tb := q_in 1362 rfl rfl
set_option maxRecDepth 100000 in
theorem cd_X12_isSmall : Cond.code yX12_isSmall cX12_isSmall 1 (some .boolean) ∈ q_tb := q_in 1377 rfl rfl
set_option maxRecDepth 100000 in
theorem cd_X12_isDigit : Cond.code yX12_isDigit cX12_isDigit 1 (some .boolean) ∈ q_tb := q_in 1380 rfl rfl
set_option maxRecDepth 100000 in
theorem cd_X12_byteAt : Cond.code yX12_byteAt cX12_byteAt 2 (some .int) ∈ q_tb := q_in 1374 rfl rfl
set_option maxRecDepth 100000 in
theorem cd_X12_token : Cond.code yX12_token cX12_token 4 none ∈ q_tb := q_in 1399 rfl rfl
set_option maxRecDepth 100000 in
theorem cd_X12_isWord : Cond.code yX12_isWord cX12_isWord 8 (some .boolean) ∈ q_tb := q_in 1389 rfl rfl
set_option maxRecDepth 100000 in
theorem cd_X12_wordOf : Cond.code yX12_wordOf cX12_wordOf 3 (some .int) ∈ q_tb := q_in 1384 rfl rfl
set_option maxRecDepth 100000 in
theorem cd_X12_signAt : Cond.code yX12_signAt cX12_signAt 4 (some .int) ∈ q_tb := q_in 1408 rfl rfl
set_option maxRecDepth 100000 in
theorem cd_X12_scans : Cond.code yX12_scans cX12_scans 6 none ∈ q_tb := q_in 1370 rfl rfl
set_option maxRecDepth 100000 in
theorem cd_X12_refuse : Cond.code yX12_refuse cX12_refuse 2 none ∈ q_tb := q_in 1424 rfl rfl
set_option maxRecDepth 100000 in
theorem cd_X12_wrong : Cond.code yX12_wrong cX12_wrong 3 none ∈ q_tb := q_in 1440 rfl rfl
set_option maxRecDepth 100000 in
theorem cd_X12_is : Cond.code yX12_is cX12_is 2 (some .boolean) ∈ q_tb := q_in 1444 rfl rfl
set_option maxRecDepth 100000 in
theorem cd_X12_wants : Cond.code yX12_wants cX12_wants 2 none ∈ q_tb := q_in 1468 rfl rfl
set_option maxRecDepth 100000 in
theorem cd_X12_wantsKind : Cond.code yX12_wantsKind cX12_wantsKind 2 (some .int) ∈ q_tb := q_in 1420 rfl rfl
set_option maxRecDepth 100000 in
theorem cd_X12_enters : Cond.code yX12_enters cX12_enters 1 none ∈ q_tb := q_in 1460 rfl rfl
set_option maxRecDepth 100000 in
theorem cd_X12_opens : Cond.code yX12_opens cX12_opens 2 none ∈ q_tb := q_in 1456 rfl rfl
set_option maxRecDepth 100000 in
theorem cd_X12_closes : Cond.code yX12_closes cX12_closes 2 none ∈ q_tb := q_in 1464 rfl rfl
set_option maxRecDepth 100000 in
theorem cd_X12_areAlike : Cond.code yX12_areAlike cX12_areAlike 4 (some .boolean) ∈ q_tb := q_in 1436 rfl rfl
set_option maxRecDepth 100000 in
theorem cd_X12_meaning : Cond.code yX12_meaning cX12_meaning 3 (some .int) ∈ q_tb := q_in 1432 rfl rfl
set_option maxRecDepth 100000 in
theorem cd_X12_told : Cond.code yX12_told cX12_told 4 none ∈ q_tb := q_in 1448 rfl rfl
set_option maxRecDepth 100000 in
theorem cd_X12_asksNew : Cond.code yX12_asksNew cX12_asksNew 2 none ∈ q_tb := q_in 1428 rfl rfl
set_option maxRecDepth 100000 in
theorem cd_X12_program : Cond.code yX12_program cX12_program 4 none ∈ q_tb := q_in 1416 rfl rfl
set_option maxRecDepth 100000 in
theorem cd_X12_array : Cond.code yX12_array cX12_array 4 none ∈ q_tb := q_in 1452 rfl rfl
set_option maxRecDepth 100000 in
theorem cd_X12_parameter : Cond.code yX12_parameter cX12_parameter 3 none ∈ q_tb := q_in 1472 rfl rfl
set_option maxRecDepth 100000 in
theorem cd_X12_variableTold : Cond.code yX12_variableTold cX12_variableTold 3 none ∈ q_tb := q_in 1476 rfl rfl
set_option maxRecDepth 100000 in
theorem cd_X12_block : Cond.code yX12_block cX12_block 5 (some .int) ∈ q_tb := q_in 1480 rfl rfl
set_option maxRecDepth 100000 in
theorem cd_X12_newStatement : Cond.code yX12_newStatement cX12_newStatement 4 (some .int) ∈ q_tb := q_in 1488 rfl rfl
set_option maxRecDepth 100000 in
theorem cd_X12_within : Cond.code yX12_within cX12_within 3 (some .int) ∈ q_tb := q_in 1532 rfl rfl
set_option maxRecDepth 100000 in
theorem cd_X12_statement : Cond.code yX12_statement cX12_statement 5 (some .int) ∈ q_tb := q_in 1484 rfl rfl
set_option maxRecDepth 100000 in
theorem cd_X12_uses : Cond.code yX12_uses cX12_uses 4 (some .int) ∈ q_tb := q_in 1512 rfl rfl
set_option maxRecDepth 100000 in
theorem cd_X12_assigns : Cond.code yX12_assigns cX12_assigns 7 (some .int) ∈ q_tb := q_in 1520 rfl rfl
set_option maxRecDepth 100000 in
theorem cd_X12_loop : Cond.code yX12_loop cX12_loop 2 none ∈ q_tb := q_in 1528 rfl rfl
set_option maxRecDepth 100000 in
theorem cd_X12_chooses : Cond.code yX12_chooses cX12_chooses 4 (some .int) ∈ q_tb := q_in 1524 rfl rfl
set_option maxRecDepth 100000 in
theorem cd_X12_repeats : Cond.code yX12_repeats cX12_repeats 4 (some .int) ∈ q_tb := q_in 1536 rfl rfl
set_option maxRecDepth 100000 in
theorem cd_X12_expression : Cond.code yX12_expression cX12_expression 2 (some .int) ∈ q_tb := q_in 1492 rfl rfl
set_option maxRecDepth 100000 in
theorem cd_X12_code : Cond.code yX12_code cX12_code 3 none ∈ q_tb := q_in 1508 rfl rfl
set_option maxRecDepth 100000 in
theorem cd_X12_part : Cond.code yX12_part cX12_part 2 none ∈ q_tb := q_in 1504 rfl rfl
set_option maxRecDepth 100000 in
theorem cd_X12_levelOf : Cond.code yX12_levelOf cX12_levelOf 1 (some .int) ∈ q_tb := q_in 1516 rfl rfl
set_option maxRecDepth 100000 in
theorem cd_X12_binary : Cond.code yX12_binary cX12_binary 3 none ∈ q_tb := q_in 1496 rfl rfl
set_option maxRecDepth 100000 in
theorem cd_X12_unary : Cond.code yX12_unary cX12_unary 3 none ∈ q_tb := q_in 1500 rfl rfl
set_option maxRecDepth 100000 in
theorem cd_X12_fault : Cond.code yX12_fault cX12_fault 2 (some .int) ∈ q_tb := q_in 1540 rfl rfl
set_option maxRecDepth 100000 in
theorem cd_X12_give : Cond.code yX12_give cX12_give 4 (some .int) ∈ q_tb := q_in 1544 rfl rfl
set_option maxRecDepth 100000 in
theorem cd_X12_isCell : Cond.code yX12_isCell cX12_isCell 3 (some .boolean) ∈ q_tb := q_in 1552 rfl rfl
set_option maxRecDepth 100000 in
theorem cd_X12_poke : Cond.code yX12_poke cX12_poke 5 (some .int) ∈ q_tb := q_in 1548 rfl rfl
set_option maxRecDepth 100000 in
theorem cd_X12_cell : Cond.code yX12_cell cX12_cell 3 (some .int) ∈ q_tb := q_in 1556 rfl rfl
set_option maxRecDepth 100000 in
theorem cd_X12_latency : Cond.code yX12_latency cX12_latency 2 (some .int) ∈ q_tb := q_in 1560 rfl rfl
set_option maxRecDepth 100000 in
theorem cd_X12_free : Cond.code yX12_free cX12_free 2 (some .int) ∈ q_tb := q_in 1564 rfl rfl
set_option maxRecDepth 100000 in
theorem cd_X12_stall : Cond.code yX12_stall cX12_stall 5 (some .long) ∈ q_tb := q_in 1568 rfl rfl
set_option maxRecDepth 100000 in
theorem cd_X12_divided : Cond.code yX12_divided cX12_divided 2 (some .int) ∈ q_tb := q_in 1602 rfl rfl
set_option maxRecDepth 100000 in
theorem cd_X12_rest : Cond.code yX12_rest cX12_rest 2 (some .int) ∈ q_tb := q_in 1605 rfl rfl
set_option maxRecDepth 100000 in
theorem cd_X12_truth : Cond.code yX12_truth cX12_truth 1 (some .int) ∈ q_tb := q_in 1596 rfl rfl
set_option maxRecDepth 100000 in
theorem cd_X12_works : Cond.code yX12_works cX12_works 3 (some .int) ∈ q_tb := q_in 1599 rfl rfl
set_option maxRecDepth 100000 in
theorem cd_X12_placeOf : Cond.code yX12_placeOf cX12_placeOf 4 (some .int) ∈ q_tb := q_in 1593 rfl rfl
set_option maxRecDepth 100000 in
theorem cd_X12_tells : Cond.code yX12_tells cX12_tells 5 (some .int) ∈ q_tb := q_in 1589 rfl rfl
set_option maxRecDepth 100000 in
theorem cd_X12_begins : Cond.code yX12_begins cX12_begins 1 (some .boolean) ∈ q_tb := q_in 1577 rfl rfl
set_option maxRecDepth 100000 in
theorem cd_X12_goes : Cond.code yX12_goes cX12_goes 4 (some .int) ∈ q_tb := q_in 1581 rfl rfl
set_option maxRecDepth 100000 in
theorem cd_X12_goesOne : Cond.code yX12_goesOne cX12_goesOne 2 (some .int) ∈ q_tb := q_in 1585 rfl rfl
set_option maxRecDepth 100000 in
theorem cd_X12_stores : Cond.code yX12_stores cX12_stores 5 none ∈ q_tb := q_in 1609 rfl rfl
set_option maxRecDepth 100000 in
theorem cd_X12_goesIf : Cond.code yX12_goesIf cX12_goesIf 4 (some .int) ∈ q_tb := q_in 1613 rfl rfl
set_option maxRecDepth 100000 in
theorem cd_X12_goesWhile : Cond.code yX12_goesWhile cX12_goesWhile 3 (some .int) ∈ q_tb := q_in 1617 rfl rfl
set_option maxRecDepth 100000 in
theorem cd_X12_run : Cond.code yX12_run cX12_run 3 (some .int) ∈ q_tb := q_in 1573 rfl rfl
set_option maxRecDepth 100000 in
theorem cd_X12_told_ : Cond.code yX12_told_ cX12_told_ 2 (some .int) ∈ q_tb := q_in 1621 rfl rfl
set_option maxRecDepth 100000 in
theorem cd_X12_write : Cond.code yX12_write cX12_write 3 (some .int) ∈ q_tb := q_in 1625 rfl rfl
set_option maxRecDepth 100000 in
theorem cd_X12_count : Cond.code yX12_count cX12_count 2 (some .int) ∈ q_tb := q_in 1630 rfl rfl
set_option maxRecDepth 100000 in
theorem cd_X12_size : Cond.code yX12_size cX12_size 2 (some .int) ∈ q_tb := q_in 1634 rfl rfl
set_option maxRecDepth 100000 in
theorem cd_J11_isValidCodePoint_9a6ad : Cond.code yJ11_isValidCodePoint_9a6ad cJ11_isValidCodePoint_9a6ad 2 (some .boolean) ∈ q_tb := q_in 648 rfl rfl
set_option maxRecDepth 100000 in
theorem cd_Jxb5711_init_a7421 : Cond.code yJxb5711_init_a7421 cJxb5711_init_a7421 2 none ∈ q_tb := q_in 1138 rfl rfl
set_option maxRecDepth 100000 in
theorem cd_J9_floorMod_7cf53 : Cond.code yJ9_floorMod_7cf53 cJ9_floorMod_7cf53 3 (some .int) ∈ q_tb := q_in 962 rfl rfl
set_option maxRecDepth 100000 in
theorem cd_J9_max_7cf53 : Cond.code yJ9_max_7cf53 cJ9_max_7cf53 2 (some .int) ∈ q_tb := q_in 601 rfl rfl
set_option maxRecDepth 100000 in
theorem cd_J9_min_7cf53 : Cond.code yJ9_min_7cf53 cJ9_min_7cf53 2 (some .int) ∈ q_tb := q_in 604 rfl rfl
set_option maxRecDepth 100000 in
theorem cd_J9_min_f86c9 : Cond.code yJ9_min_f86c9 cJ9_min_f86c9 4 (some .long) ∈ q_tb := q_in 564 rfl rfl
set_option maxRecDepth 100000 in
theorem cd_J0_length_8abf5 : Cond.code yJ0_length_8abf5 cJ0_length_8abf5 1 (some .int) ∈ q_tb := q_in 588 rfl rfl
set_option maxRecDepth 100000 in
theorem cd_J0_indexOf_0f7a4 : Cond.code yJ0_indexOf_0f7a4 cJ0_indexOf_0f7a4 2 (some .int) ∈ q_tb := q_in 574 rfl rfl
set_option maxRecDepth 100000 in
theorem cd_J0_indexOf_7cf53 : Cond.code yJ0_indexOf_7cf53 cJ0_indexOf_7cf53 3 (some .int) ∈ q_tb := q_in 578 rfl rfl
set_option maxRecDepth 100000 in
theorem cd_J0_isLatin1_aae02 : Cond.code yJ0_isLatin1_aae02 cJ0_isLatin1_aae02 1 (some .boolean) ∈ q_tb := q_in 582 rfl rfl
set_option maxRecDepth 100000 in
theorem cd_J0_checkBoundsBeginEnd_23922 : Cond.code yJ0_checkBoundsBeginEnd_23922 cJ0_checkBoundsBeginEnd_23922 3 none ∈ q_tb := q_in 625 rfl rfl
set_option maxRecDepth 100000 in
theorem cd_J1_canEncode_9a6ad : Cond.code yJ1_canEncode_9a6ad cJ1_canEncode_9a6ad 1 (some .boolean) ∈ q_tb := q_in 598 rfl rfl
set_option maxRecDepth 100000 in
theorem cd_J1_indexOf_4cfef : Cond.code yJ1_indexOf_4cfef cJ1_indexOf_4cfef 4 (some .int) ∈ q_tb := q_in 595 rfl rfl
set_option maxRecDepth 100000 in
theorem cd_J1_indexOfChar_4cfef : Cond.code yJ1_indexOfChar_4cfef cJ1_indexOfChar_4cfef 6 (some .int) ∈ q_tb := q_in 607 rfl rfl
set_option maxRecDepth 100000 in
theorem cd_J2_length_9d52b : Cond.code yJ2_length_9d52b cJ2_length_9d52b 1 (some .int) ∈ q_tb := q_in 622 rfl rfl
set_option maxRecDepth 100000 in
theorem cd_J2_indexOf_4cfef : Cond.code yJ2_indexOf_4cfef cJ2_indexOf_4cfef 4 (some .int) ∈ q_tb := q_in 610 rfl rfl
set_option maxRecDepth 100000 in
theorem cd_J2_indexOfChar_4cfef : Cond.code yJ2_indexOfChar_4cfef cJ2_indexOfChar_4cfef 4 (some .int) ∈ q_tb := q_in 616 rfl rfl
set_option maxRecDepth 100000 in
theorem cd_J2_indexOfCharUnsafe_4cfef : Cond.code yJ2_indexOfCharUnsafe_4cfef cJ2_indexOfCharUnsafe_4cfef 5 (some .int) ∈ q_tb := q_in 633 rfl rfl
set_option maxRecDepth 100000 in
theorem cd_J2_indexOfSupplementary_4cfef : Cond.code yJ2_indexOfSupplementary_4cfef cJ2_indexOfSupplementary_4cfef 7 (some .int) ∈ q_tb := q_in 645 rfl rfl
set_option maxRecDepth 100000 in
theorem cd_J2_checkBoundsBeginEnd_d044e : Cond.code yJ2_checkBoundsBeginEnd_d044e cJ2_checkBoundsBeginEnd_d044e 3 none ∈ q_tb := q_in 619 rfl rfl
set_option maxRecDepth 100000 in
theorem cd_J7_fill_53178 : Cond.code yJ7_fill_53178 cJ7_fill_53178 4 none ∈ q_tb := q_in 876 rfl rfl
set_option maxRecDepth 100000 in
theorem cd_J3_checkFromToIndex_8c36e : Cond.code yJ3_checkFromToIndex_8c36e cJ3_checkFromToIndex_8c36e 4 (some .int) ∈ q_tb := q_in 630 rfl rfl
theorem wi_X10 : Cond.initialized RX10 ∈ q_tb := q_in 90 (by decide +kernel) rfl
theorem nq_X10 : RX10 ≠ "java/lang/invoke/MethodHandle" ∧ RX10 ≠ "java/lang/invoke/VarHandle" := by decide
theorem pd_X10_feed : (parseMethodDescriptor yX10_feed.desc).map (fun d => d.parameters.length) = some 5 := by decide +kernel
theorem im_X10_feed : Cond.instanceMethod yX10_feed ∈ q_tb := q_in 516 (by decide +kernel) rfl
theorem se_X10_feed : Cond.selects yX10_feed.cls yX10_feed yX10_feed ∈ q_tb := q_in 517 (by decide +kernel) rfl
theorem cv_L_29 : q_Cv RL 29 yX10_feed 5 := ⟨⟨cX10_feed, 6, (some .int), by decide, cd_X10_feed, q_in 515 (by decide +kernel) rfl, wi_X10, nq_X10, pd_X10_feed⟩, im_X10_feed, se_X10_feed⟩
theorem wi_X7 : Cond.initialized RX7 ∈ q_tb := q_in 92 (by decide +kernel) rfl
theorem nq_X7 : RX7 ≠ "java/lang/invoke/MethodHandle" ∧ RX7 ≠ "java/lang/invoke/VarHandle" := by decide
theorem pd_X7_add : (parseMethodDescriptor yX7_add.desc).map (fun d => d.parameters.length) = some 1 := by decide +kernel
theorem im_X7_add : Cond.instanceMethod yX7_add ∈ q_tb := q_in 520 (by decide +kernel) rfl
theorem se_X7_add : Cond.selects yX7_add.cls yX7_add yX7_add ∈ q_tb := q_in 521 (by decide +kernel) rfl
theorem cv_X10_89 : q_Cv RX10 89 yX7_add 1 := ⟨⟨cX7_add, 3, none, by decide, cd_X7_add, q_in 519 (by decide +kernel) rfl, wi_X7, nq_X7, pd_X7_add⟩, im_X7_add, se_X7_add⟩
theorem pd_X10_build : (parseMethodDescriptor yX10_build.desc).map (fun d => d.parameters.length) = some 1 := by decide +kernel
theorem im_X10_build : Cond.instanceMethod yX10_build ∈ q_tb := q_in 524 (by decide +kernel) rfl
theorem se_X10_build : Cond.selects yX10_build.cls yX10_build yX10_build ∈ q_tb := q_in 525 (by decide +kernel) rfl
theorem cv_L_34 : q_Cv RL 34 yX10_build 1 := ⟨⟨cX10_build, 3, (some .int), by decide, cd_X10_build, q_in 523 (by decide +kernel) rfl, wi_X10, nq_X10, pd_X10_build⟩, im_X10_build, se_X10_build⟩
theorem wi_X8 : Cond.initialized RX8 ∈ q_tb := q_in 93 (by decide +kernel) rfl
theorem nq_X8 : RX8 ≠ "java/lang/invoke/MethodHandle" ∧ RX8 ≠ "java/lang/invoke/VarHandle" := by decide
theorem pd_X8_cut : (parseMethodDescriptor yX8_cut.desc).map (fun d => d.parameters.length) = some 1 := by decide +kernel
theorem im_X8_cut : Cond.instanceMethod yX8_cut ∈ q_tb := q_in 528 (by decide +kernel) rfl
theorem se_X8_cut : Cond.selects yX8_cut.cls yX8_cut yX8_cut ∈ q_tb := q_in 529 (by decide +kernel) rfl
theorem cv_X10_93 : q_Cv RX10 93 yX8_cut 1 := ⟨⟨cX8_cut, 3, none, by decide, cd_X8_cut, q_in 527 (by decide +kernel) rfl, wi_X8, nq_X8, pd_X8_cut⟩, im_X8_cut, se_X8_cut⟩
theorem pd_X8_skipBlanks : (parseMethodDescriptor yX8_skipBlanks.desc).map (fun d => d.parameters.length) = some 0 := by decide +kernel
theorem im_X8_skipBlanks : Cond.instanceMethod yX8_skipBlanks ∈ q_tb := q_in 533 (by decide +kernel) rfl
theorem se_X8_skipBlanks : Cond.selects yX8_skipBlanks.cls yX8_skipBlanks yX8_skipBlanks ∈ q_tb := q_in 0 (by decide +kernel) rfl
theorem cv_X8_36 : q_Cv RX8 36 yX8_skipBlanks 0 := ⟨⟨cX8_skipBlanks, 1, none, by decide, cd_X8_skipBlanks, q_in 531 (by decide +kernel) rfl, wi_X8, nq_X8, pd_X8_skipBlanks⟩, im_X8_skipBlanks, se_X8_skipBlanks⟩
theorem pd_X8_byteAt : (parseMethodDescriptor yX8_byteAt.desc).map (fun d => d.parameters.length) = some 1 := by decide +kernel
theorem im_X8_byteAt : Cond.instanceMethod yX8_byteAt ∈ q_tb := q_in 537 (by decide +kernel) rfl
theorem se_X8_byteAt : Cond.selects yX8_byteAt.cls yX8_byteAt yX8_byteAt ∈ q_tb := q_in 1 (by decide +kernel) rfl
theorem cv_X8_39 : q_Cv RX8 39 yX8_byteAt 1 := ⟨⟨cX8_byteAt, 2, (some .int), by decide, cd_X8_byteAt, q_in 535 (by decide +kernel) rfl, wi_X8, nq_X8, pd_X8_byteAt⟩, im_X8_byteAt, se_X8_byteAt⟩
theorem pd_X8_cutToken : (parseMethodDescriptor yX8_cutToken.desc).map (fun d => d.parameters.length) = some 1 := by decide +kernel
theorem im_X8_cutToken : Cond.instanceMethod yX8_cutToken ∈ q_tb := q_in 541 (by decide +kernel) rfl
theorem se_X8_cutToken : Cond.selects yX8_cutToken.cls yX8_cutToken yX8_cutToken ∈ q_tb := q_in 2 (by decide +kernel) rfl
theorem cv_X8_43 : q_Cv RX8 43 yX8_cutToken 1 := ⟨⟨cX8_cutToken, 2, (some .int), by decide, cd_X8_cutToken, q_in 539 (by decide +kernel) rfl, wi_X8, nq_X8, pd_X8_cutToken⟩, im_X8_cutToken, se_X8_cutToken⟩
theorem pd_X8_isLetter : (parseMethodDescriptor yX8_isLetter.desc).map (fun d => d.parameters.length) = some 1 := by decide +kernel
theorem sm_X8_isLetter : Cond.static yX8_isLetter ∈ q_tb := q_in 544 (by decide +kernel) rfl
theorem cs_X8_46 : q_Cs RX8 46 yX8_isLetter 1 := ⟨⟨cX8_isLetter, 1, (some .boolean), by decide, cd_X8_isLetter, q_in 543 (by decide +kernel) rfl, wi_X8, nq_X8, pd_X8_isLetter⟩, sm_X8_isLetter⟩
theorem pd_X8_cutName : (parseMethodDescriptor yX8_cutName.desc).map (fun d => d.parameters.length) = some 0 := by decide +kernel
theorem im_X8_cutName : Cond.instanceMethod yX8_cutName ∈ q_tb := q_in 548 (by decide +kernel) rfl
theorem se_X8_cutName : Cond.selects yX8_cutName.cls yX8_cutName yX8_cutName ∈ q_tb := q_in 3 (by decide +kernel) rfl
theorem cv_X8_50 : q_Cv RX8 50 yX8_cutName 0 := ⟨⟨cX8_cutName, 5, (some .int), by decide, cd_X8_cutName, q_in 546 (by decide +kernel) rfl, wi_X8, nq_X8, pd_X8_cutName⟩, im_X8_cutName, se_X8_cutName⟩
theorem pd_X8_isDigit : (parseMethodDescriptor yX8_isDigit.desc).map (fun d => d.parameters.length) = some 1 := by decide +kernel
theorem sm_X8_isDigit : Cond.static yX8_isDigit ∈ q_tb := q_in 551 (by decide +kernel) rfl
theorem cs_X8_54 : q_Cs RX8 54 yX8_isDigit 1 := ⟨⟨cX8_isDigit, 1, (some .boolean), by decide, cd_X8_isDigit, q_in 550 (by decide +kernel) rfl, wi_X8, nq_X8, pd_X8_isDigit⟩, sm_X8_isDigit⟩
theorem pd_X8_cutNumber : (parseMethodDescriptor yX8_cutNumber.desc).map (fun d => d.parameters.length) = some 0 := by decide +kernel
theorem im_X8_cutNumber : Cond.instanceMethod yX8_cutNumber ∈ q_tb := q_in 557 (by decide +kernel) rfl
theorem se_X8_cutNumber : Cond.selects yX8_cutNumber.cls yX8_cutNumber yX8_cutNumber ∈ q_tb := q_in 4 (by decide +kernel) rfl
theorem cv_X8_57 : q_Cv RX8 57 yX8_cutNumber 0 := ⟨⟨cX8_cutNumber, 3, (some .int), by decide, cd_X8_cutNumber, q_in 555 (by decide +kernel) rfl, wi_X8, nq_X8, pd_X8_cutNumber⟩, im_X8_cutNumber, se_X8_cutNumber⟩
theorem wi_J9 : Cond.initialized RJ9 ∈ q_tb := q_in 107 (by decide +kernel) rfl
theorem nq_J9 : RJ9 ≠ "java/lang/invoke/MethodHandle" ∧ RJ9 ≠ "java/lang/invoke/VarHandle" := by decide
theorem pd_J9_min_f86c9 : (parseMethodDescriptor yJ9_min_f86c9.desc).map (fun d => d.parameters.length) = some 2 := by decide +kernel
theorem sm_J9_min_f86c9 : Cond.static yJ9_min_f86c9 ∈ q_tb := q_in 563 (by decide +kernel) rfl
theorem cs_X8_72 : q_Cs RX8 72 yJ9_min_f86c9 2 := ⟨⟨cJ9_min_f86c9, 4, (some .long), by decide, cd_J9_min_f86c9, q_in 562 (by decide +kernel) rfl, wi_J9, nq_J9, pd_J9_min_f86c9⟩, sm_J9_min_f86c9⟩
theorem pd_X8_cutSign : (parseMethodDescriptor yX8_cutSign.desc).map (fun d => d.parameters.length) = some 1 := by decide +kernel
theorem im_X8_cutSign : Cond.instanceMethod yX8_cutSign ∈ q_tb := q_in 568 (by decide +kernel) rfl
theorem se_X8_cutSign : Cond.selects yX8_cutSign.cls yX8_cutSign yX8_cutSign ∈ q_tb := q_in 5 (by decide +kernel) rfl
theorem cv_X8_60 : q_Cv RX8 60 yX8_cutSign 1 := ⟨⟨cX8_cutSign, 5, (some .int), by decide, cd_X8_cutSign, q_in 566 (by decide +kernel) rfl, wi_X8, nq_X8, pd_X8_cutSign⟩, im_X8_cutSign, se_X8_cutSign⟩
theorem wi_J0 : Cond.initialized RJ0 ∈ q_tb := q_in 108 (by decide +kernel) rfl
theorem nq_J0 : RJ0 ≠ "java/lang/invoke/MethodHandle" ∧ RJ0 ≠ "java/lang/invoke/VarHandle" := by decide
theorem pd_J0_indexOf_0f7a4 : (parseMethodDescriptor yJ0_indexOf_0f7a4.desc).map (fun d => d.parameters.length) = some 1 := by decide +kernel
theorem im_J0_indexOf_0f7a4 : Cond.instanceMethod yJ0_indexOf_0f7a4 ∈ q_tb := q_in 572 (by decide +kernel) rfl
theorem se_J0_indexOf_0f7a4 : Cond.selects yJ0_indexOf_0f7a4.cls yJ0_indexOf_0f7a4 yJ0_indexOf_0f7a4 ∈ q_tb := q_in 573 (by decide +kernel) rfl
theorem cv_X8_82 : q_Cv RX8 82 yJ0_indexOf_0f7a4 1 := ⟨⟨cJ0_indexOf_0f7a4, 2, (some .int), by decide, cd_J0_indexOf_0f7a4, q_in 571 (by decide +kernel) rfl, wi_J0, nq_J0, pd_J0_indexOf_0f7a4⟩, im_J0_indexOf_0f7a4, se_J0_indexOf_0f7a4⟩
theorem pd_J0_indexOf_7cf53 : (parseMethodDescriptor yJ0_indexOf_7cf53.desc).map (fun d => d.parameters.length) = some 2 := by decide +kernel
theorem im_J0_indexOf_7cf53 : Cond.instanceMethod yJ0_indexOf_7cf53 ∈ q_tb := q_in 576 (by decide +kernel) rfl
theorem se_J0_indexOf_7cf53 : Cond.selects yJ0_indexOf_7cf53.cls yJ0_indexOf_7cf53 yJ0_indexOf_7cf53 ∈ q_tb := q_in 577 (by decide +kernel) rfl
theorem cv_J0_633 : q_Cv RJ0 633 yJ0_indexOf_7cf53 2 := ⟨⟨cJ0_indexOf_7cf53, 3, (some .int), by decide, cd_J0_indexOf_7cf53, q_in 575 (by decide +kernel) rfl, wi_J0, nq_J0, pd_J0_indexOf_7cf53⟩, im_J0_indexOf_7cf53, se_J0_indexOf_7cf53⟩
theorem pd_J0_isLatin1_aae02 : (parseMethodDescriptor yJ0_isLatin1_aae02.desc).map (fun d => d.parameters.length) = some 0 := by decide +kernel
theorem im_J0_isLatin1_aae02 : Cond.instanceMethod yJ0_isLatin1_aae02 ∈ q_tb := q_in 580 (by decide +kernel) rfl
theorem se_J0_isLatin1_aae02 : Cond.selects yJ0_isLatin1_aae02.cls yJ0_isLatin1_aae02 yJ0_isLatin1_aae02 ∈ q_tb := q_in 581 (by decide +kernel) rfl
theorem cv_J0_492 : q_Cv RJ0 492 yJ0_isLatin1_aae02 0 := ⟨⟨cJ0_isLatin1_aae02, 1, (some .boolean), by decide, cd_J0_isLatin1_aae02, q_in 579 (by decide +kernel) rfl, wi_J0, nq_J0, pd_J0_isLatin1_aae02⟩, im_J0_isLatin1_aae02, se_J0_isLatin1_aae02⟩
theorem pd_J0_length_8abf5 : (parseMethodDescriptor yJ0_length_8abf5.desc).map (fun d => d.parameters.length) = some 0 := by decide +kernel
theorem im_J0_length_8abf5 : Cond.instanceMethod yJ0_length_8abf5 ∈ q_tb := q_in 586 (by decide +kernel) rfl
theorem se_J0_length_8abf5 : Cond.selects yJ0_length_8abf5.cls yJ0_length_8abf5 yJ0_length_8abf5 ∈ q_tb := q_in 587 (by decide +kernel) rfl
theorem cv_J0_505 : q_Cv RJ0 505 yJ0_length_8abf5 0 := ⟨⟨cJ0_length_8abf5, 1, (some .int), by decide, cd_J0_length_8abf5, q_in 585 (by decide +kernel) rfl, wi_J0, nq_J0, pd_J0_length_8abf5⟩, im_J0_length_8abf5, se_J0_length_8abf5⟩
theorem wi_J1 : Cond.initialized RJ1 ∈ q_tb := q_in 109 (by decide +kernel) rfl
theorem nq_J1 : RJ1 ≠ "java/lang/invoke/MethodHandle" ∧ RJ1 ≠ "java/lang/invoke/VarHandle" := by decide
theorem pd_J1_indexOf_4cfef : (parseMethodDescriptor yJ1_indexOf_4cfef.desc).map (fun d => d.parameters.length) = some 4 := by decide +kernel
theorem sm_J1_indexOf_4cfef : Cond.static yJ1_indexOf_4cfef ∈ q_tb := q_in 594 (by decide +kernel) rfl
theorem cs_J0_637 : q_Cs RJ0 637 yJ1_indexOf_4cfef 4 := ⟨⟨cJ1_indexOf_4cfef, 4, (some .int), by decide, cd_J1_indexOf_4cfef, q_in 593 (by decide +kernel) rfl, wi_J1, nq_J1, pd_J1_indexOf_4cfef⟩, sm_J1_indexOf_4cfef⟩
theorem pd_J1_canEncode_9a6ad : (parseMethodDescriptor yJ1_canEncode_9a6ad.desc).map (fun d => d.parameters.length) = some 1 := by decide +kernel
theorem sm_J1_canEncode_9a6ad : Cond.static yJ1_canEncode_9a6ad ∈ q_tb := q_in 597 (by decide +kernel) rfl
theorem cs_J1_88 : q_Cs RJ1 88 yJ1_canEncode_9a6ad 1 := ⟨⟨cJ1_canEncode_9a6ad, 1, (some .boolean), by decide, cd_J1_canEncode_9a6ad, q_in 596 (by decide +kernel) rfl, wi_J1, nq_J1, pd_J1_canEncode_9a6ad⟩, sm_J1_canEncode_9a6ad⟩
theorem pd_J9_max_7cf53 : (parseMethodDescriptor yJ9_max_7cf53.desc).map (fun d => d.parameters.length) = some 2 := by decide +kernel
theorem sm_J9_max_7cf53 : Cond.static yJ9_max_7cf53 ∈ q_tb := q_in 600 (by decide +kernel) rfl
theorem cs_J1_92 : q_Cs RJ1 92 yJ9_max_7cf53 2 := ⟨⟨cJ9_max_7cf53, 2, (some .int), by decide, cd_J9_max_7cf53, q_in 599 (by decide +kernel) rfl, wi_J9, nq_J9, pd_J9_max_7cf53⟩, sm_J9_max_7cf53⟩
theorem pd_J9_min_7cf53 : (parseMethodDescriptor yJ9_min_7cf53.desc).map (fun d => d.parameters.length) = some 2 := by decide +kernel
theorem sm_J9_min_7cf53 : Cond.static yJ9_min_7cf53 ∈ q_tb := q_in 603 (by decide +kernel) rfl
theorem cs_J1_38 : q_Cs RJ1 38 yJ9_min_7cf53 2 := ⟨⟨cJ9_min_7cf53, 2, (some .int), by decide, cd_J9_min_7cf53, q_in 602 (by decide +kernel) rfl, wi_J9, nq_J9, pd_J9_min_7cf53⟩, sm_J9_min_7cf53⟩
theorem pd_J1_indexOfChar_4cfef : (parseMethodDescriptor yJ1_indexOfChar_4cfef.desc).map (fun d => d.parameters.length) = some 4 := by decide +kernel
theorem sm_J1_indexOfChar_4cfef : Cond.static yJ1_indexOfChar_4cfef ∈ q_tb := q_in 606 (by decide +kernel) rfl
theorem cs_J1_95 : q_Cs RJ1 95 yJ1_indexOfChar_4cfef 4 := ⟨⟨cJ1_indexOfChar_4cfef, 6, (some .int), by decide, cd_J1_indexOfChar_4cfef, q_in 605 (by decide +kernel) rfl, wi_J1, nq_J1, pd_J1_indexOfChar_4cfef⟩, sm_J1_indexOfChar_4cfef⟩
theorem wi_J2 : Cond.initialized RJ2 ∈ q_tb := q_in 110 (by decide +kernel) rfl
theorem nq_J2 : RJ2 ≠ "java/lang/invoke/MethodHandle" ∧ RJ2 ≠ "java/lang/invoke/VarHandle" := by decide
theorem pd_J2_indexOf_4cfef : (parseMethodDescriptor yJ2_indexOf_4cfef.desc).map (fun d => d.parameters.length) = some 4 := by decide +kernel
theorem sm_J2_indexOf_4cfef : Cond.static yJ2_indexOf_4cfef ∈ q_tb := q_in 609 (by decide +kernel) rfl
theorem cs_J0_640 : q_Cs RJ0 640 yJ2_indexOf_4cfef 4 := ⟨⟨cJ2_indexOf_4cfef, 4, (some .int), by decide, cd_J2_indexOf_4cfef, q_in 608 (by decide +kernel) rfl, wi_J2, nq_J2, pd_J2_indexOf_4cfef⟩, sm_J2_indexOf_4cfef⟩
theorem cs_J2_224 : q_Cs RJ2 224 yJ9_max_7cf53 2 := ⟨⟨cJ9_max_7cf53, 2, (some .int), by decide, cd_J9_max_7cf53, q_in 611 (by decide +kernel) rfl, wi_J9, nq_J9, pd_J9_max_7cf53⟩, sm_J9_max_7cf53⟩
theorem cs_J2_183 : q_Cs RJ2 183 yJ9_min_7cf53 2 := ⟨⟨cJ9_min_7cf53, 2, (some .int), by decide, cd_J9_min_7cf53, q_in 612 (by decide +kernel) rfl, wi_J9, nq_J9, pd_J9_min_7cf53⟩, sm_J9_min_7cf53⟩
theorem pd_J2_indexOfChar_4cfef : (parseMethodDescriptor yJ2_indexOfChar_4cfef.desc).map (fun d => d.parameters.length) = some 4 := by decide +kernel
theorem sm_J2_indexOfChar_4cfef : Cond.static yJ2_indexOfChar_4cfef ∈ q_tb := q_in 615 (by decide +kernel) rfl
theorem cs_J2_228 : q_Cs RJ2 228 yJ2_indexOfChar_4cfef 4 := ⟨⟨cJ2_indexOfChar_4cfef, 4, (some .int), by decide, cd_J2_indexOfChar_4cfef, q_in 614 (by decide +kernel) rfl, wi_J2, nq_J2, pd_J2_indexOfChar_4cfef⟩, sm_J2_indexOfChar_4cfef⟩
theorem pd_J2_checkBoundsBeginEnd_d044e : (parseMethodDescriptor yJ2_checkBoundsBeginEnd_d044e.desc).map (fun d => d.parameters.length) = some 3 := by decide +kernel
theorem sm_J2_checkBoundsBeginEnd_d044e : Cond.static yJ2_checkBoundsBeginEnd_d044e ∈ q_tb := q_in 618 (by decide +kernel) rfl
theorem cs_J2_96 : q_Cs RJ2 96 yJ2_checkBoundsBeginEnd_d044e 3 := ⟨⟨cJ2_checkBoundsBeginEnd_d044e, 3, none, by decide, cd_J2_checkBoundsBeginEnd_d044e, q_in 617 (by decide +kernel) rfl, wi_J2, nq_J2, pd_J2_checkBoundsBeginEnd_d044e⟩, sm_J2_checkBoundsBeginEnd_d044e⟩
theorem pd_J2_length_9d52b : (parseMethodDescriptor yJ2_length_9d52b.desc).map (fun d => d.parameters.length) = some 1 := by decide +kernel
theorem sm_J2_length_9d52b : Cond.static yJ2_length_9d52b ∈ q_tb := q_in 621 (by decide +kernel) rfl
theorem cs_J2_48 : q_Cs RJ2 48 yJ2_length_9d52b 1 := ⟨⟨cJ2_length_9d52b, 1, (some .int), by decide, cd_J2_length_9d52b, q_in 620 (by decide +kernel) rfl, wi_J2, nq_J2, pd_J2_length_9d52b⟩, sm_J2_length_9d52b⟩
theorem pd_J0_checkBoundsBeginEnd_23922 : (parseMethodDescriptor yJ0_checkBoundsBeginEnd_23922.desc).map (fun d => d.parameters.length) = some 3 := by decide +kernel
theorem sm_J0_checkBoundsBeginEnd_23922 : Cond.static yJ0_checkBoundsBeginEnd_23922 ∈ q_tb := q_in 624 (by decide +kernel) rfl
theorem cs_J2_241 : q_Cs RJ2 241 yJ0_checkBoundsBeginEnd_23922 3 := ⟨⟨cJ0_checkBoundsBeginEnd_23922, 3, none, by decide, cd_J0_checkBoundsBeginEnd_23922, q_in 623 (by decide +kernel) rfl, wi_J0, nq_J0, pd_J0_checkBoundsBeginEnd_23922⟩, sm_J0_checkBoundsBeginEnd_23922⟩
theorem wi_J3 : Cond.initialized RJ3 ∈ q_tb := q_in 111 (by decide +kernel) rfl
theorem nq_J3 : RJ3 ≠ "java/lang/invoke/MethodHandle" ∧ RJ3 ≠ "java/lang/invoke/VarHandle" := by decide
theorem pd_J3_checkFromToIndex_8c36e : (parseMethodDescriptor yJ3_checkFromToIndex_8c36e.desc).map (fun d => d.parameters.length) = some 4 := by decide +kernel
theorem sm_J3_checkFromToIndex_8c36e : Cond.static yJ3_checkFromToIndex_8c36e ∈ q_tb := q_in 629 (by decide +kernel) rfl
theorem cs_J0_1062 : q_Cs RJ0 1062 yJ3_checkFromToIndex_8c36e 4 := ⟨⟨cJ3_checkFromToIndex_8c36e, 4, (some .int), by decide, cd_J3_checkFromToIndex_8c36e, q_in 628 (by decide +kernel) rfl, wi_J3, nq_J3, pd_J3_checkFromToIndex_8c36e⟩, sm_J3_checkFromToIndex_8c36e⟩
theorem pd_J2_indexOfCharUnsafe_4cfef : (parseMethodDescriptor yJ2_indexOfCharUnsafe_4cfef.desc).map (fun d => d.parameters.length) = some 4 := by decide +kernel
theorem sm_J2_indexOfCharUnsafe_4cfef : Cond.static yJ2_indexOfCharUnsafe_4cfef ∈ q_tb := q_in 632 (by decide +kernel) rfl
theorem cs_J2_244 : q_Cs RJ2 244 yJ2_indexOfCharUnsafe_4cfef 4 := ⟨⟨cJ2_indexOfCharUnsafe_4cfef, 5, (some .int), by decide, cd_J2_indexOfCharUnsafe_4cfef, q_in 631 (by decide +kernel) rfl, wi_J2, nq_J2, pd_J2_indexOfCharUnsafe_4cfef⟩, sm_J2_indexOfCharUnsafe_4cfef⟩
theorem pd_J2_indexOfSupplementary_4cfef : (parseMethodDescriptor yJ2_indexOfSupplementary_4cfef.desc).map (fun d => d.parameters.length) = some 4 := by decide +kernel
theorem sm_J2_indexOfSupplementary_4cfef : Cond.static yJ2_indexOfSupplementary_4cfef ∈ q_tb := q_in 644 (by decide +kernel) rfl
theorem cs_J2_232 : q_Cs RJ2 232 yJ2_indexOfSupplementary_4cfef 4 := ⟨⟨cJ2_indexOfSupplementary_4cfef, 7, (some .int), by decide, cd_J2_indexOfSupplementary_4cfef, q_in 643 (by decide +kernel) rfl, wi_J2, nq_J2, pd_J2_indexOfSupplementary_4cfef⟩, sm_J2_indexOfSupplementary_4cfef⟩
theorem wi_J11 : Cond.initialized RJ11 ∈ q_tb := q_in 112 (by decide +kernel) rfl
theorem nq_J11 : RJ11 ≠ "java/lang/invoke/MethodHandle" ∧ RJ11 ≠ "java/lang/invoke/VarHandle" := by decide
theorem pd_J11_isValidCodePoint_9a6ad : (parseMethodDescriptor yJ11_isValidCodePoint_9a6ad.desc).map (fun d => d.parameters.length) = some 1 := by decide +kernel
theorem sm_J11_isValidCodePoint_9a6ad : Cond.static yJ11_isValidCodePoint_9a6ad ∈ q_tb := q_in 647 (by decide +kernel) rfl
theorem cs_J2_164 : q_Cs RJ2 164 yJ11_isValidCodePoint_9a6ad 1 := ⟨⟨cJ11_isValidCodePoint_9a6ad, 2, (some .boolean), by decide, cd_J11_isValidCodePoint_9a6ad, q_in 646 (by decide +kernel) rfl, wi_J11, nq_J11, pd_J11_isValidCodePoint_9a6ad⟩, sm_J11_isValidCodePoint_9a6ad⟩
theorem wi_X2 : Cond.initialized RX2 ∈ q_tb := q_in 94 (by decide +kernel) rfl
theorem nq_X2 : RX2 ≠ "java/lang/invoke/MethodHandle" ∧ RX2 ≠ "java/lang/invoke/VarHandle" := by decide
theorem pd_X2_make : (parseMethodDescriptor yX2_make.desc).map (fun d => d.parameters.length) = some 1 := by decide +kernel
theorem im_X2_make : Cond.instanceMethod yX2_make ∈ q_tb := q_in 660 (by decide +kernel) rfl
theorem se_X2_make : Cond.selects yX2_make.cls yX2_make yX2_make ∈ q_tb := q_in 661 (by decide +kernel) rfl
theorem cv_X10_96 : q_Cv RX10 96 yX2_make 1 := ⟨⟨cX2_make, 2, none, by decide, cd_X2_make, q_in 659 (by decide +kernel) rfl, wi_X2, nq_X2, pd_X2_make⟩, im_X2_make, se_X2_make⟩
theorem wi_X0 : Cond.initialized RX0 ∈ q_tb := q_in 91 (by decide +kernel) rfl
theorem nq_X0 : RX0 ≠ "java/lang/invoke/MethodHandle" ∧ RX0 ≠ "java/lang/invoke/VarHandle" := by decide
theorem pd_X0_clear : (parseMethodDescriptor yX0_clear.desc).map (fun d => d.parameters.length) = some 0 := by decide +kernel
theorem im_X0_clear : Cond.instanceMethod yX0_clear ∈ q_tb := q_in 664 (by decide +kernel) rfl
theorem se_X0_clear : Cond.selects yX0_clear.cls yX0_clear yX0_clear ∈ q_tb := q_in 665 (by decide +kernel) rfl
theorem cv_X2_47 : q_Cv RX2 47 yX0_clear 0 := ⟨⟨cX0_clear, 1, none, by decide, cd_X0_clear, q_in 663 (by decide +kernel) rfl, wi_X0, nq_X0, pd_X0_clear⟩, im_X0_clear, se_X0_clear⟩
theorem wi_X4 : Cond.initialized RX4 ∈ q_tb := q_in 95 (by decide +kernel) rfl
theorem nq_X4 : RX4 ≠ "java/lang/invoke/MethodHandle" ∧ RX4 ≠ "java/lang/invoke/VarHandle" := by decide
theorem pd_X4_begin : (parseMethodDescriptor yX4_begin.desc).map (fun d => d.parameters.length) = some 0 := by decide +kernel
theorem im_X4_begin : Cond.instanceMethod yX4_begin ∈ q_tb := q_in 668 (by decide +kernel) rfl
theorem se_X4_begin : Cond.selects yX4_begin.cls yX4_begin yX4_begin ∈ q_tb := q_in 669 (by decide +kernel) rfl
theorem cv_X2_52 : q_Cv RX2 52 yX4_begin 0 := ⟨⟨cX4_begin, 1, none, by decide, cd_X4_begin, q_in 667 (by decide +kernel) rfl, wi_X4, nq_X4, pd_X4_begin⟩, im_X4_begin, se_X4_begin⟩
theorem pd_X4_advance : (parseMethodDescriptor yX4_advance.desc).map (fun d => d.parameters.length) = some 0 := by decide +kernel
theorem im_X4_advance : Cond.instanceMethod yX4_advance ∈ q_tb := q_in 672 (by decide +kernel) rfl
theorem se_X4_advance : Cond.selects yX4_advance.cls yX4_advance yX4_advance ∈ q_tb := q_in 673 (by decide +kernel) rfl
theorem cv_X4_28 : q_Cv RX4 28 yX4_advance 0 := ⟨⟨cX4_advance, 1, none, by decide, cd_X4_advance, q_in 671 (by decide +kernel) rfl, wi_X4, nq_X4, pd_X4_advance⟩, im_X4_advance, se_X4_advance⟩
theorem wi_X1 : Cond.initialized RX1 ∈ q_tb := q_in 97 (by decide +kernel) rfl
theorem nq_X1 : RX1 ≠ "java/lang/invoke/MethodHandle" ∧ RX1 ≠ "java/lang/invoke/VarHandle" := by decide
theorem pd_X1_begin : (parseMethodDescriptor yX1_begin.desc).map (fun d => d.parameters.length) = some 1 := by decide +kernel
theorem im_X1_begin : Cond.instanceMethod yX1_begin ∈ q_tb := q_in 676 (by decide +kernel) rfl
theorem se_X1_begin : Cond.selects yX1_begin.cls yX1_begin yX1_begin ∈ q_tb := q_in 677 (by decide +kernel) rfl
theorem cv_X2_58 : q_Cv RX2 58 yX1_begin 1 := ⟨⟨cX1_begin, 2, none, by decide, cd_X1_begin, q_in 675 (by decide +kernel) rfl, wi_X1, nq_X1, pd_X1_begin⟩, im_X1_begin, se_X1_begin⟩
theorem pd_X2_readArrays : (parseMethodDescriptor yX2_readArrays.desc).map (fun d => d.parameters.length) = some 0 := by decide +kernel
theorem im_X2_readArrays : Cond.instanceMethod yX2_readArrays ∈ q_tb := q_in 681 (by decide +kernel) rfl
theorem se_X2_readArrays : Cond.selects yX2_readArrays.cls yX2_readArrays yX2_readArrays ∈ q_tb := q_in 6 (by decide +kernel) rfl
theorem cv_X2_67 : q_Cv RX2 67 yX2_readArrays 0 := ⟨⟨cX2_readArrays, 2, (some .boolean), by decide, cd_X2_readArrays, q_in 679 (by decide +kernel) rfl, wi_X2, nq_X2, pd_X2_readArrays⟩, im_X2_readArrays, se_X2_readArrays⟩
theorem pd_X4_pass : (parseMethodDescriptor yX4_pass.desc).map (fun d => d.parameters.length) = some 1 := by decide +kernel
theorem im_X4_pass : Cond.instanceMethod yX4_pass ∈ q_tb := q_in 684 (by decide +kernel) rfl
theorem se_X4_pass : Cond.selects yX4_pass.cls yX4_pass yX4_pass ∈ q_tb := q_in 685 (by decide +kernel) rfl
theorem cv_X2_87 : q_Cv RX2 87 yX4_pass 1 := ⟨⟨cX4_pass, 2, (some .boolean), by decide, cd_X4_pass, q_in 683 (by decide +kernel) rfl, wi_X4, nq_X4, pd_X4_pass⟩, im_X4_pass, se_X4_pass⟩
theorem pd_X4_refuse : (parseMethodDescriptor yX4_refuse.desc).map (fun d => d.parameters.length) = some 0 := by decide +kernel
theorem im_X4_refuse : Cond.instanceMethod yX4_refuse ∈ q_tb := q_in 688 (by decide +kernel) rfl
theorem se_X4_refuse : Cond.selects yX4_refuse.cls yX4_refuse yX4_refuse ∈ q_tb := q_in 689 (by decide +kernel) rfl
theorem cv_X4_57 : q_Cv RX4 57 yX4_refuse 0 := ⟨⟨cX4_refuse, 1, (some .boolean), by decide, cd_X4_refuse, q_in 687 (by decide +kernel) rfl, wi_X4, nq_X4, pd_X4_refuse⟩, im_X4_refuse, se_X4_refuse⟩
theorem pd_X2_readNewName : (parseMethodDescriptor yX2_readNewName.desc).map (fun d => d.parameters.length) = some 0 := by decide +kernel
theorem im_X2_readNewName : Cond.instanceMethod yX2_readNewName ∈ q_tb := q_in 693 (by decide +kernel) rfl
theorem se_X2_readNewName : Cond.selects yX2_readNewName.cls yX2_readNewName yX2_readNewName ∈ q_tb := q_in 7 (by decide +kernel) rfl
theorem cv_X2_91 : q_Cv RX2 91 yX2_readNewName 0 := ⟨⟨cX2_readNewName, 1, (some .boolean), by decide, cd_X2_readNewName, q_in 691 (by decide +kernel) rfl, wi_X2, nq_X2, pd_X2_readNewName⟩, im_X2_readNewName, se_X2_readNewName⟩
theorem wi_X5 : Cond.initialized RX5 ∈ q_tb := q_in 96 (by decide +kernel) rfl
theorem nq_X5 : RX5 ≠ "java/lang/invoke/MethodHandle" ∧ RX5 ≠ "java/lang/invoke/VarHandle" := by decide
theorem pd_X5_faultOfTelling : (parseMethodDescriptor yX5_faultOfTelling.desc).map (fun d => d.parameters.length) = some 1 := by decide +kernel
theorem im_X5_faultOfTelling : Cond.instanceMethod yX5_faultOfTelling ∈ q_tb := q_in 696 (by decide +kernel) rfl
theorem se_X5_faultOfTelling : Cond.selects yX5_faultOfTelling.cls yX5_faultOfTelling yX5_faultOfTelling ∈ q_tb := q_in 697 (by decide +kernel) rfl
theorem cv_X2_142 : q_Cv RX2 142 yX5_faultOfTelling 1 := ⟨⟨cX5_faultOfTelling, 3, (some .int), by decide, cd_X5_faultOfTelling, q_in 695 (by decide +kernel) rfl, wi_X5, nq_X5, pd_X5_faultOfTelling⟩, im_X5_faultOfTelling, se_X5_faultOfTelling⟩
theorem pd_X5_find : (parseMethodDescriptor yX5_find.desc).map (fun d => d.parameters.length) = some 1 := by decide +kernel
theorem im_X5_find : Cond.instanceMethod yX5_find ∈ q_tb := q_in 700 (by decide +kernel) rfl
theorem se_X5_find : Cond.selects yX5_find.cls yX5_find yX5_find ∈ q_tb := q_in 701 (by decide +kernel) rfl
theorem cv_X5_26 : q_Cv RX5 26 yX5_find 1 := ⟨⟨cX5_find, 4, (some .int), by decide, cd_X5_find, q_in 699 (by decide +kernel) rfl, wi_X5, nq_X5, pd_X5_find⟩, im_X5_find, se_X5_find⟩
theorem pd_X4_blame : (parseMethodDescriptor yX4_blame.desc).map (fun d => d.parameters.length) = some 2 := by decide +kernel
theorem im_X4_blame : Cond.instanceMethod yX4_blame ∈ q_tb := q_in 704 (by decide +kernel) rfl
theorem se_X4_blame : Cond.selects yX4_blame.cls yX4_blame yX4_blame ∈ q_tb := q_in 705 (by decide +kernel) rfl
theorem cv_X2_108 : q_Cv RX2 108 yX4_blame 2 := ⟨⟨cX4_blame, 3, none, by decide, cd_X4_blame, q_in 703 (by decide +kernel) rfl, wi_X4, nq_X4, pd_X4_blame⟩, im_X4_blame, se_X4_blame⟩
theorem pd_X5_tell : (parseMethodDescriptor yX5_tell.desc).map (fun d => d.parameters.length) = some 3 := by decide +kernel
theorem im_X5_tell : Cond.instanceMethod yX5_tell ∈ q_tb := q_in 708 (by decide +kernel) rfl
theorem se_X5_tell : Cond.selects yX5_tell.cls yX5_tell yX5_tell ∈ q_tb := q_in 709 (by decide +kernel) rfl
theorem cv_X2_98 : q_Cv RX2 98 yX5_tell 3 := ⟨⟨cX5_tell, 5, none, by decide, cd_X5_tell, q_in 707 (by decide +kernel) rfl, wi_X5, nq_X5, pd_X5_tell⟩, im_X5_tell, se_X5_tell⟩
theorem pd_X2_readCells : (parseMethodDescriptor yX2_readCells.desc).map (fun d => d.parameters.length) = some 0 := by decide +kernel
theorem im_X2_readCells : Cond.instanceMethod yX2_readCells ∈ q_tb := q_in 713 (by decide +kernel) rfl
theorem se_X2_readCells : Cond.selects yX2_readCells.cls yX2_readCells yX2_readCells ∈ q_tb := q_in 8 (by decide +kernel) rfl
theorem cv_X2_112 : q_Cv RX2 112 yX2_readCells 0 := ⟨⟨cX2_readCells, 4, (some .boolean), by decide, cd_X2_readCells, q_in 711 (by decide +kernel) rfl, wi_X2, nq_X2, pd_X2_readCells⟩, im_X2_readCells, se_X2_readCells⟩
theorem pd_X4_enter : (parseMethodDescriptor yX4_enter.desc).map (fun d => d.parameters.length) = some 1 := by decide +kernel
theorem im_X4_enter : Cond.instanceMethod yX4_enter ∈ q_tb := q_in 716 (by decide +kernel) rfl
theorem se_X4_enter : Cond.selects yX4_enter.cls yX4_enter yX4_enter ∈ q_tb := q_in 717 (by decide +kernel) rfl
theorem cv_X2_115 : q_Cv RX2 115 yX4_enter 1 := ⟨⟨cX4_enter, 2, (some .boolean), by decide, cd_X4_enter, q_in 715 (by decide +kernel) rfl, wi_X4, nq_X4, pd_X4_enter⟩, im_X4_enter, se_X4_enter⟩
theorem pd_X0_addArray : (parseMethodDescriptor yX0_addArray.desc).map (fun d => d.parameters.length) = some 1 := by decide +kernel
theorem im_X0_addArray : Cond.instanceMethod yX0_addArray ∈ q_tb := q_in 721 (by decide +kernel) rfl
theorem se_X0_addArray : Cond.selects yX0_addArray.cls yX0_addArray yX0_addArray ∈ q_tb := q_in 722 (by decide +kernel) rfl
theorem cv_X2_126 : q_Cv RX2 126 yX0_addArray 1 := ⟨⟨cX0_addArray, 2, none, by decide, cd_X0_addArray, q_in 720 (by decide +kernel) rfl, wi_X0, nq_X0, pd_X0_addArray⟩, im_X0_addArray, se_X0_addArray⟩
theorem pd_X4_leave : (parseMethodDescriptor yX4_leave.desc).map (fun d => d.parameters.length) = some 0 := by decide +kernel
theorem im_X4_leave : Cond.instanceMethod yX4_leave ∈ q_tb := q_in 725 (by decide +kernel) rfl
theorem se_X4_leave : Cond.selects yX4_leave.cls yX4_leave yX4_leave ∈ q_tb := q_in 726 (by decide +kernel) rfl
theorem cv_X2_130 : q_Cv RX2 130 yX4_leave 0 := ⟨⟨cX4_leave, 1, none, by decide, cd_X4_leave, q_in 724 (by decide +kernel) rfl, wi_X4, nq_X4, pd_X4_leave⟩, im_X4_leave, se_X4_leave⟩
theorem pd_X2_readParameters : (parseMethodDescriptor yX2_readParameters.desc).map (fun d => d.parameters.length) = some 0 := by decide +kernel
theorem im_X2_readParameters : Cond.instanceMethod yX2_readParameters ∈ q_tb := q_in 730 (by decide +kernel) rfl
theorem se_X2_readParameters : Cond.selects yX2_readParameters.cls yX2_readParameters yX2_readParameters ∈ q_tb := q_in 9 (by decide +kernel) rfl
theorem cv_X2_71 : q_Cv RX2 71 yX2_readParameters 0 := ⟨⟨cX2_readParameters, 3, (some .boolean), by decide, cd_X2_readParameters, q_in 728 (by decide +kernel) rfl, wi_X2, nq_X2, pd_X2_readParameters⟩, im_X2_readParameters, se_X2_readParameters⟩
theorem cv_X2_139 : q_Cv RX2 139 yX4_advance 0 := ⟨⟨cX4_advance, 1, none, by decide, cd_X4_advance, q_in 732 (by decide +kernel) rfl, wi_X4, nq_X4, pd_X4_advance⟩, im_X4_advance, se_X4_advance⟩
theorem pd_X0_lay : (parseMethodDescriptor yX0_lay.desc).map (fun d => d.parameters.length) = some 4 := by decide +kernel
theorem im_X0_lay : Cond.instanceMethod yX0_lay ∈ q_tb := q_in 734 (by decide +kernel) rfl
theorem se_X0_lay : Cond.selects yX0_lay.cls yX0_lay yX0_lay ∈ q_tb := q_in 735 (by decide +kernel) rfl
theorem cv_X2_74 : q_Cv RX2 74 yX0_lay 4 := ⟨⟨cX0_lay, 5, (some .int), by decide, cd_X0_lay, q_in 733 (by decide +kernel) rfl, wi_X0, nq_X0, pd_X0_lay⟩, im_X0_lay, se_X0_lay⟩
theorem pd_X2_readBlock : (parseMethodDescriptor yX2_readBlock.desc).map (fun d => d.parameters.length) = some 0 := by decide +kernel
theorem im_X2_readBlock : Cond.instanceMethod yX2_readBlock ∈ q_tb := q_in 739 (by decide +kernel) rfl
theorem se_X2_readBlock : Cond.selects yX2_readBlock.cls yX2_readBlock yX2_readBlock ∈ q_tb := q_in 10 (by decide +kernel) rfl
theorem cv_X2_78 : q_Cv RX2 78 yX2_readBlock 0 := ⟨⟨cX2_readBlock, 3, (some .boolean), by decide, cd_X2_readBlock, q_in 737 (by decide +kernel) rfl, wi_X2, nq_X2, pd_X2_readBlock⟩, im_X2_readBlock, se_X2_readBlock⟩
theorem pd_X2_readStatement : (parseMethodDescriptor yX2_readStatement.desc).map (fun d => d.parameters.length) = some 0 := by decide +kernel
theorem im_X2_readStatement : Cond.instanceMethod yX2_readStatement ∈ q_tb := q_in 743 (by decide +kernel) rfl
theorem se_X2_readStatement : Cond.selects yX2_readStatement.cls yX2_readStatement yX2_readStatement ∈ q_tb := q_in 11 (by decide +kernel) rfl
theorem cv_X2_146 : q_Cv RX2 146 yX2_readStatement 0 := ⟨⟨cX2_readStatement, 1, (some .boolean), by decide, cd_X2_readStatement, q_in 741 (by decide +kernel) rfl, wi_X2, nq_X2, pd_X2_readStatement⟩, im_X2_readStatement, se_X2_readStatement⟩
theorem pd_X2_readTelling : (parseMethodDescriptor yX2_readTelling.desc).map (fun d => d.parameters.length) = some 0 := by decide +kernel
theorem im_X2_readTelling : Cond.instanceMethod yX2_readTelling ∈ q_tb := q_in 747 (by decide +kernel) rfl
theorem se_X2_readTelling : Cond.selects yX2_readTelling.cls yX2_readTelling yX2_readTelling ∈ q_tb := q_in 12 (by decide +kernel) rfl
theorem cv_X2_149 : q_Cv RX2 149 yX2_readTelling 0 := ⟨⟨cX2_readTelling, 2, (some .boolean), by decide, cd_X2_readTelling, q_in 745 (by decide +kernel) rfl, wi_X2, nq_X2, pd_X2_readTelling⟩, im_X2_readTelling, se_X2_readTelling⟩
theorem pd_X1_read : (parseMethodDescriptor yX1_read.desc).map (fun d => d.parameters.length) = some 0 := by decide +kernel
theorem im_X1_read : Cond.instanceMethod yX1_read ∈ q_tb := q_in 750 (by decide +kernel) rfl
theorem se_X1_read : Cond.selects yX1_read.cls yX1_read yX1_read ∈ q_tb := q_in 751 (by decide +kernel) rfl
theorem cv_X2_167 : q_Cv RX2 167 yX1_read 0 := ⟨⟨cX1_read, 3, (some .boolean), by decide, cd_X1_read, q_in 749 (by decide +kernel) rfl, wi_X1, nq_X1, pd_X1_read⟩, im_X1_read, se_X1_read⟩
theorem pd_X1_readOperand : (parseMethodDescriptor yX1_readOperand.desc).map (fun d => d.parameters.length) = some 0 := by decide +kernel
theorem im_X1_readOperand : Cond.instanceMethod yX1_readOperand ∈ q_tb := q_in 755 (by decide +kernel) rfl
theorem se_X1_readOperand : Cond.selects yX1_readOperand.cls yX1_readOperand yX1_readOperand ∈ q_tb := q_in 13 (by decide +kernel) rfl
theorem cv_X1_47 : q_Cv RX1 47 yX1_readOperand 0 := ⟨⟨cX1_readOperand, 7, (some .boolean), by decide, cd_X1_readOperand, q_in 753 (by decide +kernel) rfl, wi_X1, nq_X1, pd_X1_readOperand⟩, im_X1_readOperand, se_X1_readOperand⟩
theorem cv_X1_90 : q_Cv RX1 90 yX4_enter 1 := ⟨⟨cX4_enter, 2, (some .boolean), by decide, cd_X4_enter, q_in 757 (by decide +kernel) rfl, wi_X4, nq_X4, pd_X4_enter⟩, im_X4_enter, se_X4_enter⟩
theorem pd_X1_await : (parseMethodDescriptor yX1_await.desc).map (fun d => d.parameters.length) = some 2 := by decide +kernel
theorem im_X1_await : Cond.instanceMethod yX1_await ∈ q_tb := q_in 760 (by decide +kernel) rfl
theorem se_X1_await : Cond.selects yX1_await.cls yX1_await yX1_await ∈ q_tb := q_in 14 (by decide +kernel) rfl
theorem cv_X1_94 : q_Cv RX1 94 yX1_await 2 := ⟨⟨cX1_await, 3, (some .boolean), by decide, cd_X1_await, q_in 758 (by decide +kernel) rfl, wi_X1, nq_X1, pd_X1_await⟩, im_X1_await, se_X1_await⟩
theorem cv_X1_125 : q_Cv RX1 125 yX4_refuse 0 := ⟨⟨cX4_refuse, 1, (some .boolean), by decide, cd_X4_refuse, q_in 762 (by decide +kernel) rfl, wi_X4, nq_X4, pd_X4_refuse⟩, im_X4_refuse, se_X4_refuse⟩
theorem pd_X1_countWorked : (parseMethodDescriptor yX1_countWorked.desc).map (fun d => d.parameters.length) = some 1 := by decide +kernel
theorem im_X1_countWorked : Cond.instanceMethod yX1_countWorked ∈ q_tb := q_in 765 (by decide +kernel) rfl
theorem se_X1_countWorked : Cond.selects yX1_countWorked.cls yX1_countWorked yX1_countWorked ∈ q_tb := q_in 15 (by decide +kernel) rfl
theorem cv_X1_98 : q_Cv RX1 98 yX1_countWorked 1 := ⟨⟨cX1_countWorked, 2, none, by decide, cd_X1_countWorked, q_in 763 (by decide +kernel) rfl, wi_X1, nq_X1, pd_X1_countWorked⟩, im_X1_countWorked, se_X1_countWorked⟩
theorem cv_X1_118 : q_Cv RX1 118 yX4_blame 2 := ⟨⟨cX4_blame, 3, none, by decide, cd_X4_blame, q_in 767 (by decide +kernel) rfl, wi_X4, nq_X4, pd_X4_blame⟩, im_X4_blame, se_X4_blame⟩
theorem cv_X1_101 : q_Cv RX1 101 yX4_advance 0 := ⟨⟨cX4_advance, 1, none, by decide, cd_X4_advance, q_in 768 (by decide +kernel) rfl, wi_X4, nq_X4, pd_X4_advance⟩, im_X4_advance, se_X4_advance⟩
theorem pd_X1_layOperand : (parseMethodDescriptor yX1_layOperand.desc).map (fun d => d.parameters.length) = some 3 := by decide +kernel
theorem im_X1_layOperand : Cond.instanceMethod yX1_layOperand ∈ q_tb := q_in 771 (by decide +kernel) rfl
theorem se_X1_layOperand : Cond.selects yX1_layOperand.cls yX1_layOperand yX1_layOperand ∈ q_tb := q_in 16 (by decide +kernel) rfl
theorem cv_X1_104 : q_Cv RX1 104 yX1_layOperand 3 := ⟨⟨cX1_layOperand, 4, none, by decide, cd_X1_layOperand, q_in 769 (by decide +kernel) rfl, wi_X1, nq_X1, pd_X1_layOperand⟩, im_X1_layOperand, se_X1_layOperand⟩
theorem cv_X1_137 : q_Cv RX1 137 yX0_lay 4 := ⟨⟨cX0_lay, 5, (some .int), by decide, cd_X0_lay, q_in 773 (by decide +kernel) rfl, wi_X0, nq_X0, pd_X0_lay⟩, im_X0_lay, se_X0_lay⟩
theorem pd_X1_push : (parseMethodDescriptor yX1_push.desc).map (fun d => d.parameters.length) = some 1 := by decide +kernel
theorem im_X1_push : Cond.instanceMethod yX1_push ∈ q_tb := q_in 776 (by decide +kernel) rfl
theorem se_X1_push : Cond.selects yX1_push.cls yX1_push yX1_push ∈ q_tb := q_in 17 (by decide +kernel) rfl
theorem cv_X1_143 : q_Cv RX1 143 yX1_push 1 := ⟨⟨cX1_push, 2, none, by decide, cd_X1_push, q_in 774 (by decide +kernel) rfl, wi_X1, nq_X1, pd_X1_push⟩, im_X1_push, se_X1_push⟩
theorem cv_X1_108 : q_Cv RX1 108 yX5_find 1 := ⟨⟨cX5_find, 4, (some .int), by decide, cd_X5_find, q_in 778 (by decide +kernel) rfl, wi_X5, nq_X5, pd_X5_find⟩, im_X5_find, se_X5_find⟩
theorem pd_X5_faultOfUse : (parseMethodDescriptor yX5_faultOfUse.desc).map (fun d => d.parameters.length) = some 2 := by decide +kernel
theorem im_X5_faultOfUse : Cond.instanceMethod yX5_faultOfUse ∈ q_tb := q_in 780 (by decide +kernel) rfl
theorem se_X5_faultOfUse : Cond.selects yX5_faultOfUse.cls yX5_faultOfUse yX5_faultOfUse ∈ q_tb := q_in 781 (by decide +kernel) rfl
theorem cv_X1_114 : q_Cv RX1 114 yX5_faultOfUse 2 := ⟨⟨cX5_faultOfUse, 3, (some .int), by decide, cd_X5_faultOfUse, q_in 779 (by decide +kernel) rfl, wi_X5, nq_X5, pd_X5_faultOfUse⟩, im_X5_faultOfUse, se_X5_faultOfUse⟩
theorem pd_X5_numberOf : (parseMethodDescriptor yX5_numberOf.desc).map (fun d => d.parameters.length) = some 1 := by decide +kernel
theorem im_X5_numberOf : Cond.instanceMethod yX5_numberOf ∈ q_tb := q_in 784 (by decide +kernel) rfl
theorem se_X5_numberOf : Cond.selects yX5_numberOf.cls yX5_numberOf yX5_numberOf ∈ q_tb := q_in 785 (by decide +kernel) rfl
theorem cv_X1_122 : q_Cv RX1 122 yX5_numberOf 1 := ⟨⟨cX5_numberOf, 2, (some .int), by decide, cd_X5_numberOf, q_in 783 (by decide +kernel) rfl, wi_X5, nq_X5, pd_X5_numberOf⟩, im_X5_numberOf, se_X5_numberOf⟩
theorem pd_X1_layOnes : (parseMethodDescriptor yX1_layOnes.desc).map (fun d => d.parameters.length) = some 0 := by decide +kernel
theorem im_X1_layOnes : Cond.instanceMethod yX1_layOnes ∈ q_tb := q_in 789 (by decide +kernel) rfl
theorem se_X1_layOnes : Cond.selects yX1_layOnes.cls yX1_layOnes yX1_layOnes ∈ q_tb := q_in 18 (by decide +kernel) rfl
theorem cv_X1_51 : q_Cv RX1 51 yX1_layOnes 0 := ⟨⟨cX1_layOnes, 1, none, by decide, cd_X1_layOnes, q_in 787 (by decide +kernel) rfl, wi_X1, nq_X1, pd_X1_layOnes⟩, im_X1_layOnes, se_X1_layOnes⟩
theorem pd_X1_lastWaiting : (parseMethodDescriptor yX1_lastWaiting.desc).map (fun d => d.parameters.length) = some 0 := by decide +kernel
theorem im_X1_lastWaiting : Cond.instanceMethod yX1_lastWaiting ∈ q_tb := q_in 793 (by decide +kernel) rfl
theorem se_X1_lastWaiting : Cond.selects yX1_lastWaiting.cls yX1_lastWaiting yX1_lastWaiting ∈ q_tb := q_in 19 (by decide +kernel) rfl
theorem cv_X1_128 : q_Cv RX1 128 yX1_lastWaiting 0 := ⟨⟨cX1_lastWaiting, 1, (some .int), by decide, cd_X1_lastWaiting, q_in 791 (by decide +kernel) rfl, wi_X1, nq_X1, pd_X1_lastWaiting⟩, im_X1_lastWaiting, se_X1_lastWaiting⟩
theorem pd_X1_pop : (parseMethodDescriptor yX1_pop.desc).map (fun d => d.parameters.length) = some 0 := by decide +kernel
theorem im_X1_pop : Cond.instanceMethod yX1_pop ∈ q_tb := q_in 797 (by decide +kernel) rfl
theorem se_X1_pop : Cond.selects yX1_pop.cls yX1_pop yX1_pop ∈ q_tb := q_in 20 (by decide +kernel) rfl
theorem cv_X1_79 : q_Cv RX1 79 yX1_pop 0 := ⟨⟨cX1_pop, 1, (some .int), by decide, cd_X1_pop, q_in 795 (by decide +kernel) rfl, wi_X1, nq_X1, pd_X1_pop⟩, im_X1_pop, se_X1_pop⟩
theorem cv_X1_134 : q_Cv RX1 134 yX4_leave 0 := ⟨⟨cX4_leave, 1, none, by decide, cd_X4_leave, q_in 799 (by decide +kernel) rfl, wi_X4, nq_X4, pd_X4_leave⟩, im_X4_leave, se_X4_leave⟩
theorem pd_X1_levelOf : (parseMethodDescriptor yX1_levelOf.desc).map (fun d => d.parameters.length) = some 1 := by decide +kernel
theorem sm_X1_levelOf : Cond.static yX1_levelOf ∈ q_tb := q_in 801 (by decide +kernel) rfl
theorem cs_X1_59 : q_Cs RX1 59 yX1_levelOf 1 := ⟨⟨cX1_levelOf, 1, (some .int), by decide, cd_X1_levelOf, q_in 800 (by decide +kernel) rfl, wi_X1, nq_X1, pd_X1_levelOf⟩, sm_X1_levelOf⟩
theorem cs_X1_63 : q_Cs RX1 63 yJ9_max_7cf53 2 := ⟨⟨cJ9_max_7cf53, 2, (some .int), by decide, cd_J9_max_7cf53, q_in 803 (by decide +kernel) rfl, wi_J9, nq_J9, pd_J9_max_7cf53⟩, sm_J9_max_7cf53⟩
theorem pd_X1_layTwos : (parseMethodDescriptor yX1_layTwos.desc).map (fun d => d.parameters.length) = some 1 := by decide +kernel
theorem im_X1_layTwos : Cond.instanceMethod yX1_layTwos ∈ q_tb := q_in 806 (by decide +kernel) rfl
theorem se_X1_layTwos : Cond.selects yX1_layTwos.cls yX1_layTwos yX1_layTwos ∈ q_tb := q_in 21 (by decide +kernel) rfl
theorem cv_X1_69 : q_Cv RX1 69 yX1_layTwos 1 := ⟨⟨cX1_layTwos, 4, none, by decide, cd_X1_layTwos, q_in 804 (by decide +kernel) rfl, wi_X1, nq_X1, pd_X1_layTwos⟩, im_X1_layTwos, se_X1_layTwos⟩
theorem pd_X1_readTwo : (parseMethodDescriptor yX1_readTwo.desc).map (fun d => d.parameters.length) = some 0 := by decide +kernel
theorem im_X1_readTwo : Cond.instanceMethod yX1_readTwo ∈ q_tb := q_in 810 (by decide +kernel) rfl
theorem se_X1_readTwo : Cond.selects yX1_readTwo.cls yX1_readTwo yX1_readTwo ∈ q_tb := q_in 22 (by decide +kernel) rfl
theorem cv_X1_73 : q_Cv RX1 73 yX1_readTwo 0 := ⟨⟨cX1_readTwo, 2, (some .boolean), by decide, cd_X1_readTwo, q_in 808 (by decide +kernel) rfl, wi_X1, nq_X1, pd_X1_readTwo⟩, im_X1_readTwo, se_X1_readTwo⟩
theorem pd_X1_readClosing : (parseMethodDescriptor yX1_readClosing.desc).map (fun d => d.parameters.length) = some 0 := by decide +kernel
theorem im_X1_readClosing : Cond.instanceMethod yX1_readClosing ∈ q_tb := q_in 814 (by decide +kernel) rfl
theorem se_X1_readClosing : Cond.selects yX1_readClosing.cls yX1_readClosing yX1_readClosing ∈ q_tb := q_in 23 (by decide +kernel) rfl
theorem cv_X1_76 : q_Cv RX1 76 yX1_readClosing 0 := ⟨⟨cX1_readClosing, 2, (some .boolean), by decide, cd_X1_readClosing, q_in 812 (by decide +kernel) rfl, wi_X1, nq_X1, pd_X1_readClosing⟩, im_X1_readClosing, se_X1_readClosing⟩
theorem cv_X1_131 : q_Cv RX1 131 yX4_pass 1 := ⟨⟨cX4_pass, 2, (some .boolean), by decide, cd_X4_pass, q_in 816 (by decide +kernel) rfl, wi_X4, nq_X4, pd_X4_pass⟩, im_X4_pass, se_X4_pass⟩
theorem pd_X1_result : (parseMethodDescriptor yX1_result.desc).map (fun d => d.parameters.length) = some 0 := by decide +kernel
theorem im_X1_result : Cond.instanceMethod yX1_result ∈ q_tb := q_in 818 (by decide +kernel) rfl
theorem se_X1_result : Cond.selects yX1_result.cls yX1_result yX1_result ∈ q_tb := q_in 819 (by decide +kernel) rfl
theorem cv_X2_170 : q_Cv RX2 170 yX1_result 0 := ⟨⟨cX1_result, 1, (some .int), by decide, cd_X1_result, q_in 817 (by decide +kernel) rfl, wi_X1, nq_X1, pd_X1_result⟩, im_X1_result, se_X1_result⟩
theorem pd_X2_readSetting : (parseMethodDescriptor yX2_readSetting.desc).map (fun d => d.parameters.length) = some 0 := by decide +kernel
theorem im_X2_readSetting : Cond.instanceMethod yX2_readSetting ∈ q_tb := q_in 823 (by decide +kernel) rfl
theorem se_X2_readSetting : Cond.selects yX2_readSetting.cls yX2_readSetting yX2_readSetting ∈ q_tb := q_in 24 (by decide +kernel) rfl
theorem cv_X2_152 : q_Cv RX2 152 yX2_readSetting 0 := ⟨⟨cX2_readSetting, 6, (some .boolean), by decide, cd_X2_readSetting, q_in 821 (by decide +kernel) rfl, wi_X2, nq_X2, pd_X2_readSetting⟩, im_X2_readSetting, se_X2_readSetting⟩
theorem cv_X2_174 : q_Cv RX2 174 yX5_find 1 := ⟨⟨cX5_find, 4, (some .int), by decide, cd_X5_find, q_in 825 (by decide +kernel) rfl, wi_X5, nq_X5, pd_X5_find⟩, im_X5_find, se_X5_find⟩
theorem cv_X2_177 : q_Cv RX2 177 yX5_faultOfUse 2 := ⟨⟨cX5_faultOfUse, 3, (some .int), by decide, cd_X5_faultOfUse, q_in 826 (by decide +kernel) rfl, wi_X5, nq_X5, pd_X5_faultOfUse⟩, im_X5_faultOfUse, se_X5_faultOfUse⟩
theorem cv_X2_181 : q_Cv RX2 181 yX5_numberOf 1 := ⟨⟨cX5_numberOf, 2, (some .int), by decide, cd_X5_numberOf, q_in 827 (by decide +kernel) rfl, wi_X5, nq_X5, pd_X5_numberOf⟩, im_X5_numberOf, se_X5_numberOf⟩
theorem pd_X2_readIf : (parseMethodDescriptor yX2_readIf.desc).map (fun d => d.parameters.length) = some 0 := by decide +kernel
theorem im_X2_readIf : Cond.instanceMethod yX2_readIf ∈ q_tb := q_in 830 (by decide +kernel) rfl
theorem se_X2_readIf : Cond.selects yX2_readIf.cls yX2_readIf yX2_readIf ∈ q_tb := q_in 25 (by decide +kernel) rfl
theorem cv_X2_155 : q_Cv RX2 155 yX2_readIf 0 := ⟨⟨cX2_readIf, 3, (some .boolean), by decide, cd_X2_readIf, q_in 828 (by decide +kernel) rfl, wi_X2, nq_X2, pd_X2_readIf⟩, im_X2_readIf, se_X2_readIf⟩
theorem pd_X2_countBranching : (parseMethodDescriptor yX2_countBranching.desc).map (fun d => d.parameters.length) = some 0 := by decide +kernel
theorem im_X2_countBranching : Cond.instanceMethod yX2_countBranching ∈ q_tb := q_in 834 (by decide +kernel) rfl
theorem se_X2_countBranching : Cond.selects yX2_countBranching.cls yX2_countBranching yX2_countBranching ∈ q_tb := q_in 26 (by decide +kernel) rfl
theorem cv_X2_185 : q_Cv RX2 185 yX2_countBranching 0 := ⟨⟨cX2_countBranching, 1, none, by decide, cd_X2_countBranching, q_in 832 (by decide +kernel) rfl, wi_X2, nq_X2, pd_X2_countBranching⟩, im_X2_countBranching, se_X2_countBranching⟩
theorem pd_X2_readCondition : (parseMethodDescriptor yX2_readCondition.desc).map (fun d => d.parameters.length) = some 0 := by decide +kernel
theorem im_X2_readCondition : Cond.instanceMethod yX2_readCondition ∈ q_tb := q_in 838 (by decide +kernel) rfl
theorem se_X2_readCondition : Cond.selects yX2_readCondition.cls yX2_readCondition yX2_readCondition ∈ q_tb := q_in 27 (by decide +kernel) rfl
theorem cv_X2_188 : q_Cv RX2 188 yX2_readCondition 0 := ⟨⟨cX2_readCondition, 1, (some .boolean), by decide, cd_X2_readCondition, q_in 836 (by decide +kernel) rfl, wi_X2, nq_X2, pd_X2_readCondition⟩, im_X2_readCondition, se_X2_readCondition⟩
theorem pd_X0_junction : (parseMethodDescriptor yX0_junction.desc).map (fun d => d.parameters.length) = some 0 := by decide +kernel
theorem im_X0_junction : Cond.instanceMethod yX0_junction ∈ q_tb := q_in 841 (by decide +kernel) rfl
theorem se_X0_junction : Cond.selects yX0_junction.cls yX0_junction yX0_junction ∈ q_tb := q_in 842 (by decide +kernel) rfl
theorem cv_X2_191 : q_Cv RX2 191 yX0_junction 0 := ⟨⟨cX0_junction, 1, (some .int), by decide, cd_X0_junction, q_in 840 (by decide +kernel) rfl, wi_X0, nq_X0, pd_X0_junction⟩, im_X0_junction, se_X0_junction⟩
theorem pd_X2_readBody : (parseMethodDescriptor yX2_readBody.desc).map (fun d => d.parameters.length) = some 0 := by decide +kernel
theorem im_X2_readBody : Cond.instanceMethod yX2_readBody ∈ q_tb := q_in 846 (by decide +kernel) rfl
theorem se_X2_readBody : Cond.selects yX2_readBody.cls yX2_readBody yX2_readBody ∈ q_tb := q_in 28 (by decide +kernel) rfl
theorem cv_X2_194 : q_Cv RX2 194 yX2_readBody 0 := ⟨⟨cX2_readBody, 3, (some .boolean), by decide, cd_X2_readBody, q_in 844 (by decide +kernel) rfl, wi_X2, nq_X2, pd_X2_readBody⟩, im_X2_readBody, se_X2_readBody⟩
theorem pd_X0_join : (parseMethodDescriptor yX0_join.desc).map (fun d => d.parameters.length) = some 1 := by decide +kernel
theorem im_X0_join : Cond.instanceMethod yX0_join ∈ q_tb := q_in 849 (by decide +kernel) rfl
theorem se_X0_join : Cond.selects yX0_join.cls yX0_join yX0_join ∈ q_tb := q_in 850 (by decide +kernel) rfl
theorem cv_X2_197 : q_Cv RX2 197 yX0_join 1 := ⟨⟨cX0_join, 2, none, by decide, cd_X0_join, q_in 848 (by decide +kernel) rfl, wi_X0, nq_X0, pd_X0_join⟩, im_X0_join, se_X0_join⟩
theorem cv_X0_49 : q_Cv RX0 49 yX0_lay 4 := ⟨⟨cX0_lay, 5, (some .int), by decide, cd_X0_lay, q_in 852 (by decide +kernel) rfl, wi_X0, nq_X0, pd_X0_lay⟩, im_X0_lay, se_X0_lay⟩
theorem pd_X2_readWhile : (parseMethodDescriptor yX2_readWhile.desc).map (fun d => d.parameters.length) = some 0 := by decide +kernel
theorem im_X2_readWhile : Cond.instanceMethod yX2_readWhile ∈ q_tb := q_in 855 (by decide +kernel) rfl
theorem se_X2_readWhile : Cond.selects yX2_readWhile.cls yX2_readWhile yX2_readWhile ∈ q_tb := q_in 29 (by decide +kernel) rfl
theorem cv_X2_158 : q_Cv RX2 158 yX2_readWhile 0 := ⟨⟨cX2_readWhile, 5, (some .boolean), by decide, cd_X2_readWhile, q_in 853 (by decide +kernel) rfl, wi_X2, nq_X2, pd_X2_readWhile⟩, im_X2_readWhile, se_X2_readWhile⟩
theorem pd_X2_readLeap : (parseMethodDescriptor yX2_readLeap.desc).map (fun d => d.parameters.length) = some 1 := by decide +kernel
theorem im_X2_readLeap : Cond.instanceMethod yX2_readLeap ∈ q_tb := q_in 859 (by decide +kernel) rfl
theorem se_X2_readLeap : Cond.selects yX2_readLeap.cls yX2_readLeap yX2_readLeap ∈ q_tb := q_in 30 (by decide +kernel) rfl
theorem cv_X2_161 : q_Cv RX2 161 yX2_readLeap 1 := ⟨⟨cX2_readLeap, 2, (some .boolean), by decide, cd_X2_readLeap, q_in 857 (by decide +kernel) rfl, wi_X2, nq_X2, pd_X2_readLeap⟩, im_X2_readLeap, se_X2_readLeap⟩
theorem pd_X2_readReturn : (parseMethodDescriptor yX2_readReturn.desc).map (fun d => d.parameters.length) = some 0 := by decide +kernel
theorem im_X2_readReturn : Cond.instanceMethod yX2_readReturn ∈ q_tb := q_in 863 (by decide +kernel) rfl
theorem se_X2_readReturn : Cond.selects yX2_readReturn.cls yX2_readReturn yX2_readReturn ∈ q_tb := q_in 31 (by decide +kernel) rfl
theorem cv_X2_164 : q_Cv RX2 164 yX2_readReturn 0 := ⟨⟨cX2_readReturn, 1, (some .boolean), by decide, cd_X2_readReturn, q_in 861 (by decide +kernel) rfl, wi_X2, nq_X2, pd_X2_readReturn⟩, im_X2_readReturn, se_X2_readReturn⟩
theorem cv_X2_84 : q_Cv RX2 84 yX4_refuse 0 := ⟨⟨cX4_refuse, 1, (some .boolean), by decide, cd_X4_refuse, q_in 865 (by decide +kernel) rfl, wi_X4, nq_X4, pd_X4_refuse⟩, im_X4_refuse, se_X4_refuse⟩
theorem pd_X2_faultKind : (parseMethodDescriptor yX2_faultKind.desc).map (fun d => d.parameters.length) = some 0 := by decide +kernel
theorem im_X2_faultKind : Cond.instanceMethod yX2_faultKind ∈ q_tb := q_in 867 (by decide +kernel) rfl
theorem se_X2_faultKind : Cond.selects yX2_faultKind.cls yX2_faultKind yX2_faultKind ∈ q_tb := q_in 868 (by decide +kernel) rfl
theorem cv_X10_100 : q_Cv RX10 100 yX2_faultKind 0 := ⟨⟨cX2_faultKind, 1, (some .int), by decide, cd_X2_faultKind, q_in 866 (by decide +kernel) rfl, wi_X2, nq_X2, pd_X2_faultKind⟩, im_X2_faultKind, se_X2_faultKind⟩
theorem pd_X2_faultPlace : (parseMethodDescriptor yX2_faultPlace.desc).map (fun d => d.parameters.length) = some 0 := by decide +kernel
theorem im_X2_faultPlace : Cond.instanceMethod yX2_faultPlace ∈ q_tb := q_in 871 (by decide +kernel) rfl
theorem se_X2_faultPlace : Cond.selects yX2_faultPlace.cls yX2_faultPlace yX2_faultPlace ∈ q_tb := q_in 872 (by decide +kernel) rfl
theorem cv_X10_103 : q_Cv RX10 103 yX2_faultPlace 0 := ⟨⟨cX2_faultPlace, 1, (some .int), by decide, cd_X2_faultPlace, q_in 870 (by decide +kernel) rfl, wi_X2, nq_X2, pd_X2_faultPlace⟩, im_X2_faultPlace, se_X2_faultPlace⟩
theorem wi_J7 : Cond.initialized RJ7 ∈ q_tb := q_in 113 (by decide +kernel) rfl
theorem nq_J7 : RJ7 ≠ "java/lang/invoke/MethodHandle" ∧ RJ7 ≠ "java/lang/invoke/VarHandle" := by decide
theorem pd_J7_fill_53178 : (parseMethodDescriptor yJ7_fill_53178.desc).map (fun d => d.parameters.length) = some 2 := by decide +kernel
theorem sm_J7_fill_53178 : Cond.static yJ7_fill_53178 ∈ q_tb := q_in 875 (by decide +kernel) rfl
theorem cs_X10_105 : q_Cs RX10 105 yJ7_fill_53178 2 := ⟨⟨cJ7_fill_53178, 4, none, by decide, cd_J7_fill_53178, q_in 874 (by decide +kernel) rfl, wi_J7, nq_J7, pd_J7_fill_53178⟩, sm_J7_fill_53178⟩
theorem wi_X3 : Cond.initialized RX3 ∈ q_tb := q_in 98 (by decide +kernel) rfl
theorem nq_X3 : RX3 ≠ "java/lang/invoke/MethodHandle" ∧ RX3 ≠ "java/lang/invoke/VarHandle" := by decide
theorem pd_X3_clear : (parseMethodDescriptor yX3_clear.desc).map (fun d => d.parameters.length) = some 0 := by decide +kernel
theorem im_X3_clear : Cond.instanceMethod yX3_clear ∈ q_tb := q_in 878 (by decide +kernel) rfl
theorem se_X3_clear : Cond.selects yX3_clear.cls yX3_clear yX3_clear ∈ q_tb := q_in 879 (by decide +kernel) rfl
theorem cv_X10_111 : q_Cv RX10 111 yX3_clear 0 := ⟨⟨cX3_clear, 1, none, by decide, cd_X3_clear, q_in 877 (by decide +kernel) rfl, wi_X3, nq_X3, pd_X3_clear⟩, im_X3_clear, se_X3_clear⟩
theorem cs_X3_27 : q_Cs RX3 27 yJ7_fill_53178 2 := ⟨⟨cJ7_fill_53178, 4, none, by decide, cd_J7_fill_53178, q_in 881 (by decide +kernel) rfl, wi_J7, nq_J7, pd_J7_fill_53178⟩, sm_J7_fill_53178⟩
theorem wi_X9 : Cond.initialized RX9 ∈ q_tb := q_in 100 (by decide +kernel) rfl
theorem nq_X9 : RX9 ≠ "java/lang/invoke/MethodHandle" ∧ RX9 ≠ "java/lang/invoke/VarHandle" := by decide
theorem pd_X9_forget : (parseMethodDescriptor yX9_forget.desc).map (fun d => d.parameters.length) = some 0 := by decide +kernel
theorem im_X9_forget : Cond.instanceMethod yX9_forget ∈ q_tb := q_in 883 (by decide +kernel) rfl
theorem se_X9_forget : Cond.selects yX9_forget.cls yX9_forget yX9_forget ∈ q_tb := q_in 884 (by decide +kernel) rfl
theorem cv_X10_114 : q_Cv RX10 114 yX9_forget 0 := ⟨⟨cX9_forget, 1, none, by decide, cd_X9_forget, q_in 882 (by decide +kernel) rfl, wi_X9, nq_X9, pd_X9_forget⟩, im_X9_forget, se_X9_forget⟩
theorem pd_X3_begin : (parseMethodDescriptor yX3_begin.desc).map (fun d => d.parameters.length) = some 0 := by decide +kernel
theorem im_X3_begin : Cond.instanceMethod yX3_begin ∈ q_tb := q_in 887 (by decide +kernel) rfl
theorem se_X3_begin : Cond.selects yX3_begin.cls yX3_begin yX3_begin ∈ q_tb := q_in 888 (by decide +kernel) rfl
theorem cv_X9_38 : q_Cv RX9 38 yX3_begin 0 := ⟨⟨cX3_begin, 1, none, by decide, cd_X3_begin, q_in 886 (by decide +kernel) rfl, wi_X3, nq_X3, pd_X3_begin⟩, im_X3_begin, se_X3_begin⟩
theorem pd_X10_fault : (parseMethodDescriptor yX10_fault.desc).map (fun d => d.parameters.length) = some 1 := by decide +kernel
theorem im_X10_fault : Cond.instanceMethod yX10_fault ∈ q_tb := q_in 891 (by decide +kernel) rfl
theorem se_X10_fault : Cond.selects yX10_fault.cls yX10_fault yX10_fault ∈ q_tb := q_in 892 (by decide +kernel) rfl
theorem cv_L_39 : q_Cv RL 39 yX10_fault 1 := ⟨⟨cX10_fault, 2, (some .int), by decide, cd_X10_fault, q_in 890 (by decide +kernel) rfl, wi_X10, nq_X10, pd_X10_fault⟩, im_X10_fault, se_X10_fault⟩
theorem pd_X10_latency : (parseMethodDescriptor yX10_latency.desc).map (fun d => d.parameters.length) = some 1 := by decide +kernel
theorem im_X10_latency : Cond.instanceMethod yX10_latency ∈ q_tb := q_in 895 (by decide +kernel) rfl
theorem se_X10_latency : Cond.selects yX10_latency.cls yX10_latency yX10_latency ∈ q_tb := q_in 896 (by decide +kernel) rfl
theorem cv_L_60 : q_Cv RL 60 yX10_latency 1 := ⟨⟨cX10_latency, 2, (some .int), by decide, cd_X10_latency, q_in 894 (by decide +kernel) rfl, wi_X10, nq_X10, pd_X10_latency⟩, im_X10_latency, se_X10_latency⟩
theorem pd_X3_addRow : (parseMethodDescriptor yX3_addRow.desc).map (fun d => d.parameters.length) = some 1 := by decide +kernel
theorem im_X3_addRow : Cond.instanceMethod yX3_addRow ∈ q_tb := q_in 899 (by decide +kernel) rfl
theorem se_X3_addRow : Cond.selects yX3_addRow.cls yX3_addRow yX3_addRow ∈ q_tb := q_in 900 (by decide +kernel) rfl
theorem cv_X10_144 : q_Cv RX10 144 yX3_addRow 1 := ⟨⟨cX3_addRow, 2, none, by decide, cd_X3_addRow, q_in 898 (by decide +kernel) rfl, wi_X3, nq_X3, pd_X3_addRow⟩, im_X3_addRow, se_X3_addRow⟩
theorem pd_X10_free : (parseMethodDescriptor yX10_free.desc).map (fun d => d.parameters.length) = some 0 := by decide +kernel
theorem im_X10_free : Cond.instanceMethod yX10_free ∈ q_tb := q_in 903 (by decide +kernel) rfl
theorem se_X10_free : Cond.selects yX10_free.cls yX10_free yX10_free ∈ q_tb := q_in 904 (by decide +kernel) rfl
theorem cv_L_64 : q_Cv RL 64 yX10_free 0 := ⟨⟨cX10_free, 2, (some .int), by decide, cd_X10_free, q_in 902 (by decide +kernel) rfl, wi_X10, nq_X10, pd_X10_free⟩, im_X10_free, se_X10_free⟩
theorem pd_X10_stall : (parseMethodDescriptor yX10_stall.desc).map (fun d => d.parameters.length) = some 1 := by decide +kernel
theorem im_X10_stall : Cond.instanceMethod yX10_stall ∈ q_tb := q_in 907 (by decide +kernel) rfl
theorem se_X10_stall : Cond.selects yX10_stall.cls yX10_stall yX10_stall ∈ q_tb := q_in 908 (by decide +kernel) rfl
theorem cv_L_70 : q_Cv RL 70 yX10_stall 1 := ⟨⟨cX10_stall, 5, (some .long), by decide, cd_X10_stall, q_in 906 (by decide +kernel) rfl, wi_X10, nq_X10, pd_X10_stall⟩, im_X10_stall, se_X10_stall⟩
theorem pd_X10_run : (parseMethodDescriptor yX10_run.desc).map (fun d => d.parameters.length) = some 1 := by decide +kernel
theorem im_X10_run : Cond.instanceMethod yX10_run ∈ q_tb := q_in 912 (by decide +kernel) rfl
theorem se_X10_run : Cond.selects yX10_run.cls yX10_run yX10_run ∈ q_tb := q_in 913 (by decide +kernel) rfl
theorem cv_L_75 : q_Cv RL 75 yX10_run 1 := ⟨⟨cX10_run, 2, (some .int), by decide, cd_X10_run, q_in 911 (by decide +kernel) rfl, wi_X10, nq_X10, pd_X10_run⟩, im_X10_run, se_X10_run⟩
theorem pd_X9_perform : (parseMethodDescriptor yX9_perform.desc).map (fun d => d.parameters.length) = some 3 := by decide +kernel
theorem im_X9_perform : Cond.instanceMethod yX9_perform ∈ q_tb := q_in 916 (by decide +kernel) rfl
theorem se_X9_perform : Cond.selects yX9_perform.cls yX9_perform yX9_perform ∈ q_tb := q_in 917 (by decide +kernel) rfl
theorem cv_X10_153 : q_Cv RX10 153 yX9_perform 3 := ⟨⟨cX9_perform, 5, (some .int), by decide, cd_X9_perform, q_in 915 (by decide +kernel) rfl, wi_X9, nq_X9, pd_X9_perform⟩, im_X9_perform, se_X9_perform⟩
theorem cv_X9_54 : q_Cv RX9 54 yX9_forget 0 := ⟨⟨cX9_forget, 1, none, by decide, cd_X9_forget, q_in 919 (by decide +kernel) rfl, wi_X9, nq_X9, pd_X9_forget⟩, im_X9_forget, se_X9_forget⟩
theorem pd_X9_begin : (parseMethodDescriptor yX9_begin.desc).map (fun d => d.parameters.length) = some 3 := by decide +kernel
theorem im_X9_begin : Cond.instanceMethod yX9_begin ∈ q_tb := q_in 922 (by decide +kernel) rfl
theorem se_X9_begin : Cond.selects yX9_begin.cls yX9_begin yX9_begin ∈ q_tb := q_in 32 (by decide +kernel) rfl
theorem cv_X9_57 : q_Cv RX9 57 yX9_begin 3 := ⟨⟨cX9_begin, 5, none, by decide, cd_X9_begin, q_in 920 (by decide +kernel) rfl, wi_X9, nq_X9, pd_X9_begin⟩, im_X9_begin, se_X9_begin⟩
theorem pd_X9_isReady : (parseMethodDescriptor yX9_isReady.desc).map (fun d => d.parameters.length) = some 0 := by decide +kernel
theorem im_X9_isReady : Cond.instanceMethod yX9_isReady ∈ q_tb := q_in 927 (by decide +kernel) rfl
theorem se_X9_isReady : Cond.selects yX9_isReady.cls yX9_isReady yX9_isReady ∈ q_tb := q_in 33 (by decide +kernel) rfl
theorem cv_X9_64 : q_Cv RX9 64 yX9_isReady 0 := ⟨⟨cX9_isReady, 3, (some .boolean), by decide, cd_X9_isReady, q_in 925 (by decide +kernel) rfl, wi_X9, nq_X9, pd_X9_isReady⟩, im_X9_isReady, se_X9_isReady⟩
theorem pd_X9_isFull : (parseMethodDescriptor yX9_isFull.desc).map (fun d => d.parameters.length) = some 1 := by decide +kernel
theorem im_X9_isFull : Cond.instanceMethod yX9_isFull ∈ q_tb := q_in 931 (by decide +kernel) rfl
theorem se_X9_isFull : Cond.selects yX9_isFull.cls yX9_isFull yX9_isFull ∈ q_tb := q_in 34 (by decide +kernel) rfl
theorem cv_X9_104 : q_Cv RX9 104 yX9_isFull 1 := ⟨⟨cX9_isFull, 2, (some .boolean), by decide, cd_X9_isFull, q_in 929 (by decide +kernel) rfl, wi_X9, nq_X9, pd_X9_isFull⟩, im_X9_isFull, se_X9_isFull⟩
theorem pd_X9_work : (parseMethodDescriptor yX9_work.desc).map (fun d => d.parameters.length) = some 1 := by decide +kernel
theorem im_X9_work : Cond.instanceMethod yX9_work ∈ q_tb := q_in 935 (by decide +kernel) rfl
theorem se_X9_work : Cond.selects yX9_work.cls yX9_work yX9_work ∈ q_tb := q_in 35 (by decide +kernel) rfl
theorem cv_X9_68 : q_Cv RX9 68 yX9_work 1 := ⟨⟨cX9_work, 7, (some .int), by decide, cd_X9_work, q_in 933 (by decide +kernel) rfl, wi_X9, nq_X9, pd_X9_work⟩, im_X9_work, se_X9_work⟩
theorem pd_X9_taken : (parseMethodDescriptor yX9_taken.desc).map (fun d => d.parameters.length) = some 1 := by decide +kernel
theorem im_X9_taken : Cond.instanceMethod yX9_taken ∈ q_tb := q_in 939 (by decide +kernel) rfl
theorem se_X9_taken : Cond.selects yX9_taken.cls yX9_taken yX9_taken ∈ q_tb := q_in 36 (by decide +kernel) rfl
theorem cv_X9_111 : q_Cv RX9 111 yX9_taken 1 := ⟨⟨cX9_taken, 2, (some .int), by decide, cd_X9_taken, q_in 937 (by decide +kernel) rfl, wi_X9, nq_X9, pd_X9_taken⟩, im_X9_taken, se_X9_taken⟩
theorem pd_X9_hand : (parseMethodDescriptor yX9_hand.desc).map (fun d => d.parameters.length) = some 2 := by decide +kernel
theorem im_X9_hand : Cond.instanceMethod yX9_hand ∈ q_tb := q_in 943 (by decide +kernel) rfl
theorem se_X9_hand : Cond.selects yX9_hand.cls yX9_hand yX9_hand ∈ q_tb := q_in 37 (by decide +kernel) rfl
theorem cv_X9_117 : q_Cv RX9 117 yX9_hand 2 := ⟨⟨cX9_hand, 3, none, by decide, cd_X9_hand, q_in 941 (by decide +kernel) rfl, wi_X9, nq_X9, pd_X9_hand⟩, im_X9_hand, se_X9_hand⟩
theorem pd_X9_isVariable : (parseMethodDescriptor yX9_isVariable.desc).map (fun d => d.parameters.length) = some 1 := by decide +kernel
theorem sm_X9_isVariable : Cond.static yX9_isVariable ∈ q_tb := q_in 946 (by decide +kernel) rfl
theorem cs_X9_121 : q_Cs RX9 121 yX9_isVariable 1 := ⟨⟨cX9_isVariable, 1, (some .boolean), by decide, cd_X9_isVariable, q_in 945 (by decide +kernel) rfl, wi_X9, nq_X9, pd_X9_isVariable⟩, sm_X9_isVariable⟩
theorem pd_X3_ask : (parseMethodDescriptor yX3_ask.desc).map (fun d => d.parameters.length) = some 1 := by decide +kernel
theorem im_X3_ask : Cond.instanceMethod yX3_ask ∈ q_tb := q_in 949 (by decide +kernel) rfl
theorem se_X3_ask : Cond.selects yX3_ask.cls yX3_ask yX3_ask ∈ q_tb := q_in 950 (by decide +kernel) rfl
theorem cv_X9_124 : q_Cv RX9 124 yX3_ask 1 := ⟨⟨cX3_ask, 4, (some .int), by decide, cd_X3_ask, q_in 948 (by decide +kernel) rfl, wi_X3, nq_X3, pd_X3_ask⟩, im_X3_ask, se_X3_ask⟩
theorem pd_X9_cellOf : (parseMethodDescriptor yX9_cellOf.desc).map (fun d => d.parameters.length) = some 2 := by decide +kernel
theorem im_X9_cellOf : Cond.instanceMethod yX9_cellOf ∈ q_tb := q_in 954 (by decide +kernel) rfl
theorem se_X9_cellOf : Cond.selects yX9_cellOf.cls yX9_cellOf yX9_cellOf ∈ q_tb := q_in 38 (by decide +kernel) rfl
theorem cv_X9_127 : q_Cv RX9 127 yX9_cellOf 2 := ⟨⟨cX9_cellOf, 4, (some .int), by decide, cd_X9_cellOf, q_in 952 (by decide +kernel) rfl, wi_X9, nq_X9, pd_X9_cellOf⟩, im_X9_cellOf, se_X9_cellOf⟩
theorem pd_X0_cellsOf : (parseMethodDescriptor yX0_cellsOf.desc).map (fun d => d.parameters.length) = some 1 := by decide +kernel
theorem im_X0_cellsOf : Cond.instanceMethod yX0_cellsOf ∈ q_tb := q_in 957 (by decide +kernel) rfl
theorem se_X0_cellsOf : Cond.selects yX0_cellsOf.cls yX0_cellsOf yX0_cellsOf ∈ q_tb := q_in 958 (by decide +kernel) rfl
theorem cv_X9_150 : q_Cv RX9 150 yX0_cellsOf 1 := ⟨⟨cX0_cellsOf, 2, (some .int), by decide, cd_X0_cellsOf, q_in 956 (by decide +kernel) rfl, wi_X0, nq_X0, pd_X0_cellsOf⟩, im_X0_cellsOf, se_X0_cellsOf⟩
theorem pd_J9_floorMod_7cf53 : (parseMethodDescriptor yJ9_floorMod_7cf53.desc).map (fun d => d.parameters.length) = some 2 := by decide +kernel
theorem sm_J9_floorMod_7cf53 : Cond.static yJ9_floorMod_7cf53 ∈ q_tb := q_in 961 (by decide +kernel) rfl
theorem cs_X9_153 : q_Cs RX9 153 yJ9_floorMod_7cf53 2 := ⟨⟨cJ9_floorMod_7cf53, 3, (some .int), by decide, cd_J9_floorMod_7cf53, q_in 960 (by decide +kernel) rfl, wi_J9, nq_J9, pd_J9_floorMod_7cf53⟩, sm_J9_floorMod_7cf53⟩
theorem pd_X3_fetch : (parseMethodDescriptor yX3_fetch.desc).map (fun d => d.parameters.length) = some 2 := by decide +kernel
theorem im_X3_fetch : Cond.instanceMethod yX3_fetch ∈ q_tb := q_in 964 (by decide +kernel) rfl
theorem se_X3_fetch : Cond.selects yX3_fetch.cls yX3_fetch yX3_fetch ∈ q_tb := q_in 965 (by decide +kernel) rfl
theorem cv_X9_130 : q_Cv RX9 130 yX3_fetch 2 := ⟨⟨cX3_fetch, 3, (some .int), by decide, cd_X3_fetch, q_in 963 (by decide +kernel) rfl, wi_X3, nq_X3, pd_X3_fetch⟩, im_X3_fetch, se_X3_fetch⟩
theorem pd_X3_look : (parseMethodDescriptor yX3_look.desc).map (fun d => d.parameters.length) = some 2 := by decide +kernel
theorem im_X3_look : Cond.instanceMethod yX3_look ∈ q_tb := q_in 968 (by decide +kernel) rfl
theorem se_X3_look : Cond.selects yX3_look.cls yX3_look yX3_look ∈ q_tb := q_in 969 (by decide +kernel) rfl
theorem cv_X3_50 : q_Cv RX3 50 yX3_look 2 := ⟨⟨cX3_look, 3, (some .int), by decide, cd_X3_look, q_in 967 (by decide +kernel) rfl, wi_X3, nq_X3, pd_X3_look⟩, im_X3_look, se_X3_look⟩
theorem pd_X3_isThere : (parseMethodDescriptor yX3_isThere.desc).map (fun d => d.parameters.length) = some 2 := by decide +kernel
theorem sm_X3_isThere : Cond.static yX3_isThere ∈ q_tb := q_in 972 (by decide +kernel) rfl
theorem cs_X3_46 : q_Cs RX3 46 yX3_isThere 2 := ⟨⟨cX3_isThere, 2, (some .boolean), by decide, cd_X3_isThere, q_in 971 (by decide +kernel) rfl, wi_X3, nq_X3, pd_X3_isThere⟩, sm_X3_isThere⟩
theorem pd_X3_store : (parseMethodDescriptor yX3_store.desc).map (fun d => d.parameters.length) = some 3 := by decide +kernel
theorem im_X3_store : Cond.instanceMethod yX3_store ∈ q_tb := q_in 975 (by decide +kernel) rfl
theorem se_X3_store : Cond.selects yX3_store.cls yX3_store yX3_store ∈ q_tb := q_in 976 (by decide +kernel) rfl
theorem cv_X9_133 : q_Cv RX9 133 yX3_store 3 := ⟨⟨cX3_store, 4, none, by decide, cd_X3_store, q_in 974 (by decide +kernel) rfl, wi_X3, nq_X3, pd_X3_store⟩, im_X3_store, se_X3_store⟩
theorem pd_X3_put : (parseMethodDescriptor yX3_put.desc).map (fun d => d.parameters.length) = some 3 := by decide +kernel
theorem im_X3_put : Cond.instanceMethod yX3_put ∈ q_tb := q_in 979 (by decide +kernel) rfl
theorem se_X3_put : Cond.selects yX3_put.cls yX3_put yX3_put ∈ q_tb := q_in 980 (by decide +kernel) rfl
theorem cv_X3_54 : q_Cv RX3 54 yX3_put 3 := ⟨⟨cX3_put, 4, none, by decide, cd_X3_put, q_in 978 (by decide +kernel) rfl, wi_X3, nq_X3, pd_X3_put⟩, im_X3_put, se_X3_put⟩
theorem pd_X0_leadsTo : (parseMethodDescriptor yX0_leadsTo.desc).map (fun d => d.parameters.length) = some 1 := by decide +kernel
theorem im_X0_leadsTo : Cond.instanceMethod yX0_leadsTo ∈ q_tb := q_in 983 (by decide +kernel) rfl
theorem se_X0_leadsTo : Cond.selects yX0_leadsTo.cls yX0_leadsTo yX0_leadsTo ∈ q_tb := q_in 984 (by decide +kernel) rfl
theorem cv_X9_137 : q_Cv RX9 137 yX0_leadsTo 1 := ⟨⟨cX0_leadsTo, 2, (some .int), by decide, cd_X0_leadsTo, q_in 982 (by decide +kernel) rfl, wi_X0, nq_X0, pd_X0_leadsTo⟩, im_X0_leadsTo, se_X0_leadsTo⟩
theorem pd_X9_beginStep : (parseMethodDescriptor yX9_beginStep.desc).map (fun d => d.parameters.length) = some 0 := by decide +kernel
theorem im_X9_beginStep : Cond.instanceMethod yX9_beginStep ∈ q_tb := q_in 988 (by decide +kernel) rfl
theorem se_X9_beginStep : Cond.selects yX9_beginStep.cls yX9_beginStep yX9_beginStep ∈ q_tb := q_in 39 (by decide +kernel) rfl
theorem cv_X9_140 : q_Cv RX9 140 yX9_beginStep 0 := ⟨⟨cX9_beginStep, 1, none, by decide, cd_X9_beginStep, q_in 986 (by decide +kernel) rfl, wi_X9, nq_X9, pd_X9_beginStep⟩, im_X9_beginStep, se_X9_beginStep⟩
theorem wi_X6 : Cond.initialized RX6 ∈ q_tb := q_in 99 (by decide +kernel) rfl
theorem nq_X6 : RX6 ≠ "java/lang/invoke/MethodHandle" ∧ RX6 ≠ "java/lang/invoke/VarHandle" := by decide
theorem pd_X6_take : (parseMethodDescriptor yX6_take.desc).map (fun d => d.parameters.length) = some 1 := by decide +kernel
theorem im_X6_take : Cond.instanceMethod yX6_take ∈ q_tb := q_in 991 (by decide +kernel) rfl
theorem se_X6_take : Cond.selects yX6_take.cls yX6_take yX6_take ∈ q_tb := q_in 992 (by decide +kernel) rfl
theorem cv_X9_143 : q_Cv RX9 143 yX6_take 1 := ⟨⟨cX6_take, 3, (some .int), by decide, cd_X6_take, q_in 990 (by decide +kernel) rfl, wi_X6, nq_X6, pd_X6_take⟩, im_X6_take, se_X6_take⟩
theorem pd_X9_worked : (parseMethodDescriptor yX9_worked.desc).map (fun d => d.parameters.length) = some 3 := by decide +kernel
theorem sm_X9_worked : Cond.static yX9_worked ∈ q_tb := q_in 995 (by decide +kernel) rfl
theorem cs_X9_146 : q_Cs RX9 146 yX9_worked 3 := ⟨⟨cX9_worked, 3, (some .int), by decide, cd_X9_worked, q_in 994 (by decide +kernel) rfl, wi_X9, nq_X9, pd_X9_worked⟩, sm_X9_worked⟩
theorem pd_X9_truth : (parseMethodDescriptor yX9_truth.desc).map (fun d => d.parameters.length) = some 1 := by decide +kernel
theorem sm_X9_truth : Cond.static yX9_truth ∈ q_tb := q_in 998 (by decide +kernel) rfl
theorem cs_X9_159 : q_Cs RX9 159 yX9_truth 1 := ⟨⟨cX9_truth, 1, (some .int), by decide, cd_X9_truth, q_in 997 (by decide +kernel) rfl, wi_X9, nq_X9, pd_X9_truth⟩, sm_X9_truth⟩
theorem pd_X9_reckoned : (parseMethodDescriptor yX9_reckoned.desc).map (fun d => d.parameters.length) = some 3 := by decide +kernel
theorem sm_X9_reckoned : Cond.static yX9_reckoned ∈ q_tb := q_in 1001 (by decide +kernel) rfl
theorem cs_X9_163 : q_Cs RX9 163 yX9_reckoned 3 := ⟨⟨cX9_reckoned, 3, (some .int), by decide, cd_X9_reckoned, q_in 1000 (by decide +kernel) rfl, wi_X9, nq_X9, pd_X9_reckoned⟩, sm_X9_reckoned⟩
theorem cs_X9_72 : q_Cs RX9 72 yJ9_max_7cf53 2 := ⟨⟨cJ9_max_7cf53, 2, (some .int), by decide, cd_J9_max_7cf53, q_in 1003 (by decide +kernel) rfl, wi_J9, nq_J9, pd_J9_max_7cf53⟩, sm_J9_max_7cf53⟩
theorem pd_X10_told : (parseMethodDescriptor yX10_told.desc).map (fun d => d.parameters.length) = some 1 := by decide +kernel
theorem im_X10_told : Cond.instanceMethod yX10_told ∈ q_tb := q_in 1005 (by decide +kernel) rfl
theorem se_X10_told : Cond.selects yX10_told.cls yX10_told yX10_told ∈ q_tb := q_in 1006 (by decide +kernel) rfl
theorem cv_L_79 : q_Cv RL 79 yX10_told 1 := ⟨⟨cX10_told, 2, (some .int), by decide, cd_X10_told, q_in 1004 (by decide +kernel) rfl, wi_X10, nq_X10, pd_X10_told⟩, im_X10_told, se_X10_told⟩
theorem pd_X10_count : (parseMethodDescriptor yX10_count.desc).map (fun d => d.parameters.length) = some 1 := by decide +kernel
theorem im_X10_count : Cond.instanceMethod yX10_count ∈ q_tb := q_in 1009 (by decide +kernel) rfl
theorem se_X10_count : Cond.selects yX10_count.cls yX10_count yX10_count ∈ q_tb := q_in 1010 (by decide +kernel) rfl
theorem cv_L_86 : q_Cv RL 86 yX10_count 1 := ⟨⟨cX10_count, 2, (some .int), by decide, cd_X10_count, q_in 1008 (by decide +kernel) rfl, wi_X10, nq_X10, pd_X10_count⟩, im_X10_count, se_X10_count⟩
theorem pd_X10_size : (parseMethodDescriptor yX10_size.desc).map (fun d => d.parameters.length) = some 1 := by decide +kernel
theorem im_X10_size : Cond.instanceMethod yX10_size ∈ q_tb := q_in 1013 (by decide +kernel) rfl
theorem se_X10_size : Cond.selects yX10_size.cls yX10_size yX10_size ∈ q_tb := q_in 1014 (by decide +kernel) rfl
theorem cv_L_90 : q_Cv RL 90 yX10_size 1 := ⟨⟨cX10_size, 2, (some .int), by decide, cd_X10_size, q_in 1012 (by decide +kernel) rfl, wi_X10, nq_X10, pd_X10_size⟩, im_X10_size, se_X10_size⟩
theorem cv_X10_207 : q_Cv RX10 207 yX0_cellsOf 1 := ⟨⟨cX0_cellsOf, 2, (some .int), by decide, cd_X0_cellsOf, q_in 1016 (by decide +kernel) rfl, wi_X0, nq_X0, pd_X0_cellsOf⟩, im_X0_cellsOf, se_X0_cellsOf⟩
theorem pd_X10_give : (parseMethodDescriptor yX10_give.desc).map (fun d => d.parameters.length) = some 2 := by decide +kernel
theorem im_X10_give : Cond.instanceMethod yX10_give ∈ q_tb := q_in 1022 (by decide +kernel) rfl
theorem se_X10_give : Cond.selects yX10_give.cls yX10_give yX10_give ∈ q_tb := q_in 1023 (by decide +kernel) rfl
theorem cv_L_7 : q_Cv RL 7 yX10_give 2 := ⟨⟨cX10_give, 4, (some .int), by decide, cd_X10_give, q_in 1021 (by decide +kernel) rfl, wi_X10, nq_X10, pd_X10_give⟩, im_X10_give, se_X10_give⟩
theorem pd_X10_poke : (parseMethodDescriptor yX10_poke.desc).map (fun d => d.parameters.length) = some 3 := by decide +kernel
theorem im_X10_poke : Cond.instanceMethod yX10_poke ∈ q_tb := q_in 1095 (by decide +kernel) rfl
theorem se_X10_poke : Cond.selects yX10_poke.cls yX10_poke yX10_poke ∈ q_tb := q_in 1096 (by decide +kernel) rfl
theorem cv_L_15 : q_Cv RL 15 yX10_poke 3 := ⟨⟨cX10_poke, 5, (some .int), by decide, cd_X10_poke, q_in 1094 (by decide +kernel) rfl, wi_X10, nq_X10, pd_X10_poke⟩, im_X10_poke, se_X10_poke⟩
theorem pd_X10_isCell : (parseMethodDescriptor yX10_isCell.desc).map (fun d => d.parameters.length) = some 2 := by decide +kernel
theorem im_X10_isCell : Cond.instanceMethod yX10_isCell ∈ q_tb := q_in 1100 (by decide +kernel) rfl
theorem se_X10_isCell : Cond.selects yX10_isCell.cls yX10_isCell yX10_isCell ∈ q_tb := q_in 41 (by decide +kernel) rfl
theorem cv_X10_127 : q_Cv RX10 127 yX10_isCell 2 := ⟨⟨cX10_isCell, 3, (some .boolean), by decide, cd_X10_isCell, q_in 1098 (by decide +kernel) rfl, wi_X10, nq_X10, pd_X10_isCell⟩, im_X10_isCell, se_X10_isCell⟩
theorem cv_X10_133 : q_Cv RX10 133 yX3_look 2 := ⟨⟨cX3_look, 3, (some .int), by decide, cd_X3_look, q_in 1103 (by decide +kernel) rfl, wi_X3, nq_X3, pd_X3_look⟩, im_X3_look, se_X3_look⟩
theorem cv_X10_137 : q_Cv RX10 137 yX3_put 3 := ⟨⟨cX3_put, 4, none, by decide, cd_X3_put, q_in 1104 (by decide +kernel) rfl, wi_X3, nq_X3, pd_X3_put⟩, im_X3_put, se_X3_put⟩
theorem pd_X10_cell : (parseMethodDescriptor yX10_cell.desc).map (fun d => d.parameters.length) = some 2 := by decide +kernel
theorem im_X10_cell : Cond.instanceMethod yX10_cell ∈ q_tb := q_in 1109 (by decide +kernel) rfl
theorem se_X10_cell : Cond.selects yX10_cell.cls yX10_cell yX10_cell ∈ q_tb := q_in 1110 (by decide +kernel) rfl
theorem cv_L_19 : q_Cv RL 19 yX10_cell 2 := ⟨⟨cX10_cell, 3, (some .int), by decide, cd_X10_cell, q_in 1108 (by decide +kernel) rfl, wi_X10, nq_X10, pd_X10_cell⟩, im_X10_cell, se_X10_cell⟩
theorem pd_X10_write : (parseMethodDescriptor yX10_write.desc).map (fun d => d.parameters.length) = some 2 := by decide +kernel
theorem im_X10_write : Cond.instanceMethod yX10_write ∈ q_tb := q_in 1116 (by decide +kernel) rfl
theorem se_X10_write : Cond.selects yX10_write.cls yX10_write yX10_write ∈ q_tb := q_in 1117 (by decide +kernel) rfl
theorem cv_L_22 : q_Cv RL 22 yX10_write 2 := ⟨⟨cX10_write, 3, (some .int), by decide, cd_X10_write, q_in 1115 (by decide +kernel) rfl, wi_X10, nq_X10, pd_X10_write⟩, im_X10_write, se_X10_write⟩
theorem wi_X12 : Cond.initialized RX12 ∈ q_tb := q_in 101 (by decide +kernel) rfl
theorem nq_X12 : RX12 ≠ "java/lang/invoke/MethodHandle" ∧ RX12 ≠ "java/lang/invoke/VarHandle" := by decide
theorem pd_X12_thrown : (parseMethodDescriptor yX12_thrown.desc).map (fun d => d.parameters.length) = some 0 := by decide +kernel
theorem im_X12_thrown : Cond.instanceMethod yX12_thrown ∈ q_tb := q_in 1352 (by decide +kernel) rfl
theorem se_X12_thrown : Cond.selects yX12_thrown.cls yX12_thrown yX12_thrown ∈ q_tb := q_in 1353 (by decide +kernel) rfl
theorem cv_L_49 : q_Cv RL 49 yX12_thrown 0 := ⟨⟨cX12_thrown, 1, (some .int), by decide, cd_X12_thrown, q_in 1351 (by decide +kernel) rfl, wi_X12, nq_X12, pd_X12_thrown⟩, im_X12_thrown, se_X12_thrown⟩
theorem pd_X12_feed : (parseMethodDescriptor yX12_feed.desc).map (fun d => d.parameters.length) = some 5 := by decide +kernel
theorem im_X12_feed : Cond.instanceMethod yX12_feed ∈ q_tb := q_in 1356 (by decide +kernel) rfl
theorem se_X12_feed : Cond.selects yX12_feed.cls yX12_feed yX12_feed ∈ q_tb := q_in 1357 (by decide +kernel) rfl
theorem cv_L_33 : q_Cv RL 33 yX12_feed 5 := ⟨⟨cX12_feed, 6, (some .int), by decide, cd_X12_feed, q_in 1355 (by decide +kernel) rfl, wi_X12, nq_X12, pd_X12_feed⟩, im_X12_feed, se_X12_feed⟩
theorem pd_X12_four : (parseMethodDescriptor yX12_four.desc).map (fun d => d.parameters.length) = some 1 := by decide +kernel
theorem im_X12_four : Cond.instanceMethod yX12_four ∈ q_tb := q_in 1361 (by decide +kernel) rfl
theorem se_X12_four : Cond.selects yX12_four.cls yX12_four yX12_four ∈ q_tb := q_in 42 (by decide +kernel) rfl
theorem cv_X12_89 : q_Cv RX12 89 yX12_four 1 := ⟨⟨cX12_four, 3, none, by decide, cd_X12_four, q_in 1359 (by decide +kernel) rfl, wi_X12, nq_X12, pd_X12_four⟩, im_X12_four, se_X12_four⟩
theorem pd_X12_scans : (parseMethodDescriptor yX12_scans.desc).map (fun d => d.parameters.length) = some 0 := by decide +kernel
theorem im_X12_scans : Cond.instanceMethod yX12_scans ∈ q_tb := q_in 1369 (by decide +kernel) rfl
theorem se_X12_scans : Cond.selects yX12_scans.cls yX12_scans yX12_scans ∈ q_tb := q_in 43 (by decide +kernel) rfl
theorem cv_X12_325 : q_Cv RX12 325 yX12_scans 0 := ⟨⟨cX12_scans, 6, none, by decide, cd_X12_scans, q_in 1367 (by decide +kernel) rfl, wi_X12, nq_X12, pd_X12_scans⟩, im_X12_scans, se_X12_scans⟩
theorem pd_X12_byteAt : (parseMethodDescriptor yX12_byteAt.desc).map (fun d => d.parameters.length) = some 1 := by decide +kernel
theorem im_X12_byteAt : Cond.instanceMethod yX12_byteAt ∈ q_tb := q_in 1373 (by decide +kernel) rfl
theorem se_X12_byteAt : Cond.selects yX12_byteAt.cls yX12_byteAt yX12_byteAt ∈ q_tb := q_in 44 (by decide +kernel) rfl
theorem cv_X12_99 : q_Cv RX12 99 yX12_byteAt 1 := ⟨⟨cX12_byteAt, 2, (some .int), by decide, cd_X12_byteAt, q_in 1371 (by decide +kernel) rfl, wi_X12, nq_X12, pd_X12_byteAt⟩, im_X12_byteAt, se_X12_byteAt⟩
theorem pd_X12_isSmall : (parseMethodDescriptor yX12_isSmall.desc).map (fun d => d.parameters.length) = some 1 := by decide +kernel
theorem sm_X12_isSmall : Cond.static yX12_isSmall ∈ q_tb := q_in 1376 (by decide +kernel) rfl
theorem cs_X12_121 : q_Cs RX12 121 yX12_isSmall 1 := ⟨⟨cX12_isSmall, 1, (some .boolean), by decide, cd_X12_isSmall, q_in 1375 (by decide +kernel) rfl, wi_X12, nq_X12, pd_X12_isSmall⟩, sm_X12_isSmall⟩
theorem pd_X12_isDigit : (parseMethodDescriptor yX12_isDigit.desc).map (fun d => d.parameters.length) = some 1 := by decide +kernel
theorem sm_X12_isDigit : Cond.static yX12_isDigit ∈ q_tb := q_in 1379 (by decide +kernel) rfl
theorem cs_X12_125 : q_Cs RX12 125 yX12_isDigit 1 := ⟨⟨cX12_isDigit, 1, (some .boolean), by decide, cd_X12_isDigit, q_in 1378 (by decide +kernel) rfl, wi_X12, nq_X12, pd_X12_isDigit⟩, sm_X12_isDigit⟩
theorem pd_X12_wordOf : (parseMethodDescriptor yX12_wordOf.desc).map (fun d => d.parameters.length) = some 2 := by decide +kernel
theorem im_X12_wordOf : Cond.instanceMethod yX12_wordOf ∈ q_tb := q_in 1383 (by decide +kernel) rfl
theorem se_X12_wordOf : Cond.selects yX12_wordOf.cls yX12_wordOf yX12_wordOf ∈ q_tb := q_in 45 (by decide +kernel) rfl
theorem cv_X12_128 : q_Cv RX12 128 yX12_wordOf 2 := ⟨⟨cX12_wordOf, 3, (some .int), by decide, cd_X12_wordOf, q_in 1381 (by decide +kernel) rfl, wi_X12, nq_X12, pd_X12_wordOf⟩, im_X12_wordOf, se_X12_wordOf⟩
theorem pd_X12_isWord : (parseMethodDescriptor yX12_isWord.desc).map (fun d => d.parameters.length) = some 3 := by decide +kernel
theorem im_X12_isWord : Cond.instanceMethod yX12_isWord ∈ q_tb := q_in 1388 (by decide +kernel) rfl
theorem se_X12_isWord : Cond.selects yX12_isWord.cls yX12_isWord yX12_isWord ∈ q_tb := q_in 46 (by decide +kernel) rfl
theorem cv_X12_105 : q_Cv RX12 105 yX12_isWord 3 := ⟨⟨cX12_isWord, 8, (some .boolean), by decide, cd_X12_isWord, q_in 1386 (by decide +kernel) rfl, wi_X12, nq_X12, pd_X12_isWord⟩, im_X12_isWord, se_X12_isWord⟩
theorem pd_X12_token : (parseMethodDescriptor yX12_token.desc).map (fun d => d.parameters.length) = some 3 := by decide +kernel
theorem im_X12_token : Cond.instanceMethod yX12_token ∈ q_tb := q_in 1398 (by decide +kernel) rfl
theorem se_X12_token : Cond.selects yX12_token.cls yX12_token yX12_token ∈ q_tb := q_in 47 (by decide +kernel) rfl
theorem cv_X12_132 : q_Cv RX12 132 yX12_token 3 := ⟨⟨cX12_token, 4, none, by decide, cd_X12_token, q_in 1396 (by decide +kernel) rfl, wi_X12, nq_X12, pd_X12_token⟩, im_X12_token, se_X12_token⟩
theorem cs_X12_142 : q_Cs RX12 142 yJ9_min_f86c9 2 := ⟨⟨cJ9_min_f86c9, 4, (some .long), by decide, cd_J9_min_f86c9, q_in 1403 (by decide +kernel) rfl, wi_J9, nq_J9, pd_J9_min_f86c9⟩, sm_J9_min_f86c9⟩
theorem pd_X12_signAt : (parseMethodDescriptor yX12_signAt.desc).map (fun d => d.parameters.length) = some 1 := by decide +kernel
theorem im_X12_signAt : Cond.instanceMethod yX12_signAt ∈ q_tb := q_in 1407 (by decide +kernel) rfl
theorem se_X12_signAt : Cond.selects yX12_signAt.cls yX12_signAt yX12_signAt ∈ q_tb := q_in 48 (by decide +kernel) rfl
theorem cv_X12_150 : q_Cv RX12 150 yX12_signAt 1 := ⟨⟨cX12_signAt, 4, (some .int), by decide, cd_X12_signAt, q_in 1405 (by decide +kernel) rfl, wi_X12, nq_X12, pd_X12_signAt⟩, im_X12_signAt, se_X12_signAt⟩
theorem wi_X11 : Cond.initialized RX11 ∈ q_tb := q_in 106 (by decide +kernel) rfl
theorem nq_X11 : RX11 ≠ "java/lang/invoke/MethodHandle" ∧ RX11 ≠ "java/lang/invoke/VarHandle" := by decide
theorem pd_X11_clear : (parseMethodDescriptor yX11_clear.desc).map (fun d => d.parameters.length) = some 0 := by decide +kernel
theorem im_X11_clear : Cond.instanceMethod yX11_clear ∈ q_tb := q_in 1410 (by decide +kernel) rfl
theorem se_X11_clear : Cond.selects yX11_clear.cls yX11_clear yX11_clear ∈ q_tb := q_in 1411 (by decide +kernel) rfl
theorem cv_X12_328 : q_Cv RX12 328 yX11_clear 0 := ⟨⟨cX11_clear, 1, none, by decide, cd_X11_clear, q_in 1409 (by decide +kernel) rfl, wi_X11, nq_X11, pd_X11_clear⟩, im_X11_clear, se_X11_clear⟩
theorem pd_X12_program : (parseMethodDescriptor yX12_program.desc).map (fun d => d.parameters.length) = some 0 := by decide +kernel
theorem im_X12_program : Cond.instanceMethod yX12_program ∈ q_tb := q_in 1415 (by decide +kernel) rfl
theorem se_X12_program : Cond.selects yX12_program.cls yX12_program yX12_program ∈ q_tb := q_in 49 (by decide +kernel) rfl
theorem cv_X12_331 : q_Cv RX12 331 yX12_program 0 := ⟨⟨cX12_program, 4, none, by decide, cd_X12_program, q_in 1413 (by decide +kernel) rfl, wi_X12, nq_X12, pd_X12_program⟩, im_X12_program, se_X12_program⟩
theorem pd_X12_wantsKind : (parseMethodDescriptor yX12_wantsKind.desc).map (fun d => d.parameters.length) = some 1 := by decide +kernel
theorem im_X12_wantsKind : Cond.instanceMethod yX12_wantsKind ∈ q_tb := q_in 1419 (by decide +kernel) rfl
theorem se_X12_wantsKind : Cond.selects yX12_wantsKind.cls yX12_wantsKind yX12_wantsKind ∈ q_tb := q_in 50 (by decide +kernel) rfl
theorem cv_X12_197 : q_Cv RX12 197 yX12_wantsKind 1 := ⟨⟨cX12_wantsKind, 2, (some .int), by decide, cd_X12_wantsKind, q_in 1417 (by decide +kernel) rfl, wi_X12, nq_X12, pd_X12_wantsKind⟩, im_X12_wantsKind, se_X12_wantsKind⟩
theorem pd_X12_refuse : (parseMethodDescriptor yX12_refuse.desc).map (fun d => d.parameters.length) = some 1 := by decide +kernel
theorem im_X12_refuse : Cond.instanceMethod yX12_refuse ∈ q_tb := q_in 1423 (by decide +kernel) rfl
theorem se_X12_refuse : Cond.selects yX12_refuse.cls yX12_refuse yX12_refuse ∈ q_tb := q_in 51 (by decide +kernel) rfl
theorem cv_X12_171 : q_Cv RX12 171 yX12_refuse 1 := ⟨⟨cX12_refuse, 2, none, by decide, cd_X12_refuse, q_in 1421 (by decide +kernel) rfl, wi_X12, nq_X12, pd_X12_refuse⟩, im_X12_refuse, se_X12_refuse⟩
theorem pd_X12_asksNew : (parseMethodDescriptor yX12_asksNew.desc).map (fun d => d.parameters.length) = some 1 := by decide +kernel
theorem im_X12_asksNew : Cond.instanceMethod yX12_asksNew ∈ q_tb := q_in 1427 (by decide +kernel) rfl
theorem se_X12_asksNew : Cond.selects yX12_asksNew.cls yX12_asksNew yX12_asksNew ∈ q_tb := q_in 52 (by decide +kernel) rfl
theorem cv_X12_200 : q_Cv RX12 200 yX12_asksNew 1 := ⟨⟨cX12_asksNew, 2, none, by decide, cd_X12_asksNew, q_in 1425 (by decide +kernel) rfl, wi_X12, nq_X12, pd_X12_asksNew⟩, im_X12_asksNew, se_X12_asksNew⟩
theorem pd_X12_meaning : (parseMethodDescriptor yX12_meaning.desc).map (fun d => d.parameters.length) = some 1 := by decide +kernel
theorem im_X12_meaning : Cond.instanceMethod yX12_meaning ∈ q_tb := q_in 1431 (by decide +kernel) rfl
theorem se_X12_meaning : Cond.selects yX12_meaning.cls yX12_meaning yX12_meaning ∈ q_tb := q_in 53 (by decide +kernel) rfl
theorem cv_X12_190 : q_Cv RX12 190 yX12_meaning 1 := ⟨⟨cX12_meaning, 3, (some .int), by decide, cd_X12_meaning, q_in 1429 (by decide +kernel) rfl, wi_X12, nq_X12, pd_X12_meaning⟩, im_X12_meaning, se_X12_meaning⟩
theorem pd_X12_areAlike : (parseMethodDescriptor yX12_areAlike.desc).map (fun d => d.parameters.length) = some 2 := by decide +kernel
theorem im_X12_areAlike : Cond.instanceMethod yX12_areAlike ∈ q_tb := q_in 1435 (by decide +kernel) rfl
theorem se_X12_areAlike : Cond.selects yX12_areAlike.cls yX12_areAlike yX12_areAlike ∈ q_tb := q_in 54 (by decide +kernel) rfl
theorem cv_X12_186 : q_Cv RX12 186 yX12_areAlike 2 := ⟨⟨cX12_areAlike, 4, (some .boolean), by decide, cd_X12_areAlike, q_in 1433 (by decide +kernel) rfl, wi_X12, nq_X12, pd_X12_areAlike⟩, im_X12_areAlike, se_X12_areAlike⟩
theorem pd_X12_wrong : (parseMethodDescriptor yX12_wrong.desc).map (fun d => d.parameters.length) = some 2 := by decide +kernel
theorem im_X12_wrong : Cond.instanceMethod yX12_wrong ∈ q_tb := q_in 1439 (by decide +kernel) rfl
theorem se_X12_wrong : Cond.selects yX12_wrong.cls yX12_wrong yX12_wrong ∈ q_tb := q_in 55 (by decide +kernel) rfl
theorem cv_X12_193 : q_Cv RX12 193 yX12_wrong 2 := ⟨⟨cX12_wrong, 3, none, by decide, cd_X12_wrong, q_in 1437 (by decide +kernel) rfl, wi_X12, nq_X12, pd_X12_wrong⟩, im_X12_wrong, se_X12_wrong⟩
theorem pd_X12_is : (parseMethodDescriptor yX12_is.desc).map (fun d => d.parameters.length) = some 1 := by decide +kernel
theorem im_X12_is : Cond.instanceMethod yX12_is ∈ q_tb := q_in 1443 (by decide +kernel) rfl
theorem se_X12_is : Cond.selects yX12_is.cls yX12_is yX12_is ∈ q_tb := q_in 56 (by decide +kernel) rfl
theorem cv_X12_168 : q_Cv RX12 168 yX12_is 1 := ⟨⟨cX12_is, 2, (some .boolean), by decide, cd_X12_is, q_in 1441 (by decide +kernel) rfl, wi_X12, nq_X12, pd_X12_is⟩, im_X12_is, se_X12_is⟩
theorem pd_X12_told : (parseMethodDescriptor yX12_told.desc).map (fun d => d.parameters.length) = some 3 := by decide +kernel
theorem im_X12_told : Cond.instanceMethod yX12_told ∈ q_tb := q_in 1447 (by decide +kernel) rfl
theorem se_X12_told : Cond.selects yX12_told.cls yX12_told yX12_told ∈ q_tb := q_in 57 (by decide +kernel) rfl
theorem cv_X12_203 : q_Cv RX12 203 yX12_told 3 := ⟨⟨cX12_told, 4, none, by decide, cd_X12_told, q_in 1445 (by decide +kernel) rfl, wi_X12, nq_X12, pd_X12_told⟩, im_X12_told, se_X12_told⟩
theorem pd_X12_array : (parseMethodDescriptor yX12_array.desc).map (fun d => d.parameters.length) = some 1 := by decide +kernel
theorem im_X12_array : Cond.instanceMethod yX12_array ∈ q_tb := q_in 1451 (by decide +kernel) rfl
theorem se_X12_array : Cond.selects yX12_array.cls yX12_array yX12_array ∈ q_tb := q_in 58 (by decide +kernel) rfl
theorem cv_X12_206 : q_Cv RX12 206 yX12_array 1 := ⟨⟨cX12_array, 4, none, by decide, cd_X12_array, q_in 1449 (by decide +kernel) rfl, wi_X12, nq_X12, pd_X12_array⟩, im_X12_array, se_X12_array⟩
theorem pd_X12_opens : (parseMethodDescriptor yX12_opens.desc).map (fun d => d.parameters.length) = some 1 := by decide +kernel
theorem im_X12_opens : Cond.instanceMethod yX12_opens ∈ q_tb := q_in 1455 (by decide +kernel) rfl
theorem se_X12_opens : Cond.selects yX12_opens.cls yX12_opens yX12_opens ∈ q_tb := q_in 59 (by decide +kernel) rfl
theorem cv_X12_209 : q_Cv RX12 209 yX12_opens 1 := ⟨⟨cX12_opens, 2, none, by decide, cd_X12_opens, q_in 1453 (by decide +kernel) rfl, wi_X12, nq_X12, pd_X12_opens⟩, im_X12_opens, se_X12_opens⟩
theorem pd_X12_enters : (parseMethodDescriptor yX12_enters.desc).map (fun d => d.parameters.length) = some 0 := by decide +kernel
theorem im_X12_enters : Cond.instanceMethod yX12_enters ∈ q_tb := q_in 1459 (by decide +kernel) rfl
theorem se_X12_enters : Cond.selects yX12_enters.cls yX12_enters yX12_enters ∈ q_tb := q_in 60 (by decide +kernel) rfl
theorem cv_X12_177 : q_Cv RX12 177 yX12_enters 0 := ⟨⟨cX12_enters, 1, none, by decide, cd_X12_enters, q_in 1457 (by decide +kernel) rfl, wi_X12, nq_X12, pd_X12_enters⟩, im_X12_enters, se_X12_enters⟩
theorem pd_X12_closes : (parseMethodDescriptor yX12_closes.desc).map (fun d => d.parameters.length) = some 1 := by decide +kernel
theorem im_X12_closes : Cond.instanceMethod yX12_closes ∈ q_tb := q_in 1463 (by decide +kernel) rfl
theorem se_X12_closes : Cond.selects yX12_closes.cls yX12_closes yX12_closes ∈ q_tb := q_in 61 (by decide +kernel) rfl
theorem cv_X12_215 : q_Cv RX12 215 yX12_closes 1 := ⟨⟨cX12_closes, 2, none, by decide, cd_X12_closes, q_in 1461 (by decide +kernel) rfl, wi_X12, nq_X12, pd_X12_closes⟩, im_X12_closes, se_X12_closes⟩
theorem pd_X12_wants : (parseMethodDescriptor yX12_wants.desc).map (fun d => d.parameters.length) = some 1 := by decide +kernel
theorem im_X12_wants : Cond.instanceMethod yX12_wants ∈ q_tb := q_in 1467 (by decide +kernel) rfl
theorem se_X12_wants : Cond.selects yX12_wants.cls yX12_wants yX12_wants ∈ q_tb := q_in 62 (by decide +kernel) rfl
theorem cv_X12_180 : q_Cv RX12 180 yX12_wants 1 := ⟨⟨cX12_wants, 2, none, by decide, cd_X12_wants, q_in 1465 (by decide +kernel) rfl, wi_X12, nq_X12, pd_X12_wants⟩, im_X12_wants, se_X12_wants⟩
theorem pd_X12_parameter : (parseMethodDescriptor yX12_parameter.desc).map (fun d => d.parameters.length) = some 0 := by decide +kernel
theorem im_X12_parameter : Cond.instanceMethod yX12_parameter ∈ q_tb := q_in 1471 (by decide +kernel) rfl
theorem se_X12_parameter : Cond.selects yX12_parameter.cls yX12_parameter yX12_parameter ∈ q_tb := q_in 63 (by decide +kernel) rfl
theorem cv_X12_212 : q_Cv RX12 212 yX12_parameter 0 := ⟨⟨cX12_parameter, 3, none, by decide, cd_X12_parameter, q_in 1469 (by decide +kernel) rfl, wi_X12, nq_X12, pd_X12_parameter⟩, im_X12_parameter, se_X12_parameter⟩
theorem pd_X12_variableTold : (parseMethodDescriptor yX12_variableTold.desc).map (fun d => d.parameters.length) = some 1 := by decide +kernel
theorem im_X12_variableTold : Cond.instanceMethod yX12_variableTold ∈ q_tb := q_in 1475 (by decide +kernel) rfl
theorem se_X12_variableTold : Cond.selects yX12_variableTold.cls yX12_variableTold yX12_variableTold ∈ q_tb := q_in 64 (by decide +kernel) rfl
theorem cv_X12_234 : q_Cv RX12 234 yX12_variableTold 1 := ⟨⟨cX12_variableTold, 3, none, by decide, cd_X12_variableTold, q_in 1473 (by decide +kernel) rfl, wi_X12, nq_X12, pd_X12_variableTold⟩, im_X12_variableTold, se_X12_variableTold⟩
theorem pd_X12_block : (parseMethodDescriptor yX12_block.desc).map (fun d => d.parameters.length) = some 0 := by decide +kernel
theorem im_X12_block : Cond.instanceMethod yX12_block ∈ q_tb := q_in 1479 (by decide +kernel) rfl
theorem se_X12_block : Cond.selects yX12_block.cls yX12_block yX12_block ∈ q_tb := q_in 65 (by decide +kernel) rfl
theorem cv_X12_218 : q_Cv RX12 218 yX12_block 0 := ⟨⟨cX12_block, 5, (some .int), by decide, cd_X12_block, q_in 1477 (by decide +kernel) rfl, wi_X12, nq_X12, pd_X12_block⟩, im_X12_block, se_X12_block⟩
theorem pd_X12_statement : (parseMethodDescriptor yX12_statement.desc).map (fun d => d.parameters.length) = some 0 := by decide +kernel
theorem im_X12_statement : Cond.instanceMethod yX12_statement ∈ q_tb := q_in 1483 (by decide +kernel) rfl
theorem se_X12_statement : Cond.selects yX12_statement.cls yX12_statement yX12_statement ∈ q_tb := q_in 66 (by decide +kernel) rfl
theorem cv_X12_240 : q_Cv RX12 240 yX12_statement 0 := ⟨⟨cX12_statement, 5, (some .int), by decide, cd_X12_statement, q_in 1481 (by decide +kernel) rfl, wi_X12, nq_X12, pd_X12_statement⟩, im_X12_statement, se_X12_statement⟩
theorem pd_X12_newStatement : (parseMethodDescriptor yX12_newStatement.desc).map (fun d => d.parameters.length) = some 1 := by decide +kernel
theorem im_X12_newStatement : Cond.instanceMethod yX12_newStatement ∈ q_tb := q_in 1487 (by decide +kernel) rfl
theorem se_X12_newStatement : Cond.selects yX12_newStatement.cls yX12_newStatement yX12_newStatement ∈ q_tb := q_in 67 (by decide +kernel) rfl
theorem cv_X12_261 : q_Cv RX12 261 yX12_newStatement 1 := ⟨⟨cX12_newStatement, 4, (some .int), by decide, cd_X12_newStatement, q_in 1485 (by decide +kernel) rfl, wi_X12, nq_X12, pd_X12_newStatement⟩, im_X12_newStatement, se_X12_newStatement⟩
theorem pd_X12_expression : (parseMethodDescriptor yX12_expression.desc).map (fun d => d.parameters.length) = some 0 := by decide +kernel
theorem im_X12_expression : Cond.instanceMethod yX12_expression ∈ q_tb := q_in 1491 (by decide +kernel) rfl
theorem se_X12_expression : Cond.selects yX12_expression.cls yX12_expression yX12_expression ∈ q_tb := q_in 68 (by decide +kernel) rfl
theorem cv_X12_267 : q_Cv RX12 267 yX12_expression 0 := ⟨⟨cX12_expression, 2, (some .int), by decide, cd_X12_expression, q_in 1489 (by decide +kernel) rfl, wi_X12, nq_X12, pd_X12_expression⟩, im_X12_expression, se_X12_expression⟩
theorem pd_X12_binary : (parseMethodDescriptor yX12_binary.desc).map (fun d => d.parameters.length) = some 1 := by decide +kernel
theorem im_X12_binary : Cond.instanceMethod yX12_binary ∈ q_tb := q_in 1495 (by decide +kernel) rfl
theorem se_X12_binary : Cond.selects yX12_binary.cls yX12_binary yX12_binary ∈ q_tb := q_in 69 (by decide +kernel) rfl
theorem cv_X12_301 : q_Cv RX12 301 yX12_binary 1 := ⟨⟨cX12_binary, 3, none, by decide, cd_X12_binary, q_in 1493 (by decide +kernel) rfl, wi_X12, nq_X12, pd_X12_binary⟩, im_X12_binary, se_X12_binary⟩
theorem pd_X12_unary : (parseMethodDescriptor yX12_unary.desc).map (fun d => d.parameters.length) = some 0 := by decide +kernel
theorem im_X12_unary : Cond.instanceMethod yX12_unary ∈ q_tb := q_in 1499 (by decide +kernel) rfl
theorem se_X12_unary : Cond.selects yX12_unary.cls yX12_unary yX12_unary ∈ q_tb := q_in 70 (by decide +kernel) rfl
theorem cv_X12_313 : q_Cv RX12 313 yX12_unary 0 := ⟨⟨cX12_unary, 3, none, by decide, cd_X12_unary, q_in 1497 (by decide +kernel) rfl, wi_X12, nq_X12, pd_X12_unary⟩, im_X12_unary, se_X12_unary⟩
theorem pd_X12_part : (parseMethodDescriptor yX12_part.desc).map (fun d => d.parameters.length) = some 1 := by decide +kernel
theorem im_X12_part : Cond.instanceMethod yX12_part ∈ q_tb := q_in 1503 (by decide +kernel) rfl
theorem se_X12_part : Cond.selects yX12_part.cls yX12_part yX12_part ∈ q_tb := q_in 71 (by decide +kernel) rfl
theorem cv_X12_319 : q_Cv RX12 319 yX12_part 1 := ⟨⟨cX12_part, 2, none, by decide, cd_X12_part, q_in 1501 (by decide +kernel) rfl, wi_X12, nq_X12, pd_X12_part⟩, im_X12_part, se_X12_part⟩
theorem pd_X12_code : (parseMethodDescriptor yX12_code.desc).map (fun d => d.parameters.length) = some 2 := by decide +kernel
theorem im_X12_code : Cond.instanceMethod yX12_code ∈ q_tb := q_in 1507 (by decide +kernel) rfl
theorem se_X12_code : Cond.selects yX12_code.cls yX12_code yX12_code ∈ q_tb := q_in 72 (by decide +kernel) rfl
theorem cv_X12_322 : q_Cv RX12 322 yX12_code 2 := ⟨⟨cX12_code, 3, none, by decide, cd_X12_code, q_in 1505 (by decide +kernel) rfl, wi_X12, nq_X12, pd_X12_code⟩, im_X12_code, se_X12_code⟩
theorem pd_X12_uses : (parseMethodDescriptor yX12_uses.desc).map (fun d => d.parameters.length) = some 2 := by decide +kernel
theorem im_X12_uses : Cond.instanceMethod yX12_uses ∈ q_tb := q_in 1511 (by decide +kernel) rfl
theorem se_X12_uses : Cond.selects yX12_uses.cls yX12_uses yX12_uses ∈ q_tb := q_in 73 (by decide +kernel) rfl
theorem cv_X12_282 : q_Cv RX12 282 yX12_uses 2 := ⟨⟨cX12_uses, 4, (some .int), by decide, cd_X12_uses, q_in 1509 (by decide +kernel) rfl, wi_X12, nq_X12, pd_X12_uses⟩, im_X12_uses, se_X12_uses⟩
theorem pd_X12_levelOf : (parseMethodDescriptor yX12_levelOf.desc).map (fun d => d.parameters.length) = some 0 := by decide +kernel
theorem im_X12_levelOf : Cond.instanceMethod yX12_levelOf ∈ q_tb := q_in 1515 (by decide +kernel) rfl
theorem se_X12_levelOf : Cond.selects yX12_levelOf.cls yX12_levelOf yX12_levelOf ∈ q_tb := q_in 74 (by decide +kernel) rfl
theorem cv_X12_316 : q_Cv RX12 316 yX12_levelOf 0 := ⟨⟨cX12_levelOf, 1, (some .int), by decide, cd_X12_levelOf, q_in 1513 (by decide +kernel) rfl, wi_X12, nq_X12, pd_X12_levelOf⟩, im_X12_levelOf, se_X12_levelOf⟩
theorem pd_X12_assigns : (parseMethodDescriptor yX12_assigns.desc).map (fun d => d.parameters.length) = some 0 := by decide +kernel
theorem im_X12_assigns : Cond.instanceMethod yX12_assigns ∈ q_tb := q_in 1519 (by decide +kernel) rfl
theorem se_X12_assigns : Cond.selects yX12_assigns.cls yX12_assigns yX12_assigns ∈ q_tb := q_in 75 (by decide +kernel) rfl
theorem cv_X12_270 : q_Cv RX12 270 yX12_assigns 0 := ⟨⟨cX12_assigns, 7, (some .int), by decide, cd_X12_assigns, q_in 1517 (by decide +kernel) rfl, wi_X12, nq_X12, pd_X12_assigns⟩, im_X12_assigns, se_X12_assigns⟩
theorem pd_X12_chooses : (parseMethodDescriptor yX12_chooses.desc).map (fun d => d.parameters.length) = some 0 := by decide +kernel
theorem im_X12_chooses : Cond.instanceMethod yX12_chooses ∈ q_tb := q_in 1523 (by decide +kernel) rfl
theorem se_X12_chooses : Cond.selects yX12_chooses.cls yX12_chooses yX12_chooses ∈ q_tb := q_in 76 (by decide +kernel) rfl
theorem cv_X12_273 : q_Cv RX12 273 yX12_chooses 0 := ⟨⟨cX12_chooses, 4, (some .int), by decide, cd_X12_chooses, q_in 1521 (by decide +kernel) rfl, wi_X12, nq_X12, pd_X12_chooses⟩, im_X12_chooses, se_X12_chooses⟩
theorem pd_X12_loop : (parseMethodDescriptor yX12_loop.desc).map (fun d => d.parameters.length) = some 1 := by decide +kernel
theorem im_X12_loop : Cond.instanceMethod yX12_loop ∈ q_tb := q_in 1527 (by decide +kernel) rfl
theorem se_X12_loop : Cond.selects yX12_loop.cls yX12_loop yX12_loop ∈ q_tb := q_in 77 (by decide +kernel) rfl
theorem cv_X12_292 : q_Cv RX12 292 yX12_loop 1 := ⟨⟨cX12_loop, 2, none, by decide, cd_X12_loop, q_in 1525 (by decide +kernel) rfl, wi_X12, nq_X12, pd_X12_loop⟩, im_X12_loop, se_X12_loop⟩
theorem pd_X12_within : (parseMethodDescriptor yX12_within.desc).map (fun d => d.parameters.length) = some 0 := by decide +kernel
theorem im_X12_within : Cond.instanceMethod yX12_within ∈ q_tb := q_in 1531 (by decide +kernel) rfl
theorem se_X12_within : Cond.selects yX12_within.cls yX12_within yX12_within ∈ q_tb := q_in 78 (by decide +kernel) rfl
theorem cv_X12_295 : q_Cv RX12 295 yX12_within 0 := ⟨⟨cX12_within, 3, (some .int), by decide, cd_X12_within, q_in 1529 (by decide +kernel) rfl, wi_X12, nq_X12, pd_X12_within⟩, im_X12_within, se_X12_within⟩
theorem pd_X12_repeats : (parseMethodDescriptor yX12_repeats.desc).map (fun d => d.parameters.length) = some 0 := by decide +kernel
theorem im_X12_repeats : Cond.instanceMethod yX12_repeats ∈ q_tb := q_in 1535 (by decide +kernel) rfl
theorem se_X12_repeats : Cond.selects yX12_repeats.cls yX12_repeats yX12_repeats ∈ q_tb := q_in 79 (by decide +kernel) rfl
theorem cv_X12_276 : q_Cv RX12 276 yX12_repeats 0 := ⟨⟨cX12_repeats, 4, (some .int), by decide, cd_X12_repeats, q_in 1533 (by decide +kernel) rfl, wi_X12, nq_X12, pd_X12_repeats⟩, im_X12_repeats, se_X12_repeats⟩
theorem pd_X12_fault : (parseMethodDescriptor yX12_fault.desc).map (fun d => d.parameters.length) = some 1 := by decide +kernel
theorem im_X12_fault : Cond.instanceMethod yX12_fault ∈ q_tb := q_in 1538 (by decide +kernel) rfl
theorem se_X12_fault : Cond.selects yX12_fault.cls yX12_fault yX12_fault ∈ q_tb := q_in 1539 (by decide +kernel) rfl
theorem cv_L_42 : q_Cv RL 42 yX12_fault 1 := ⟨⟨cX12_fault, 2, (some .int), by decide, cd_X12_fault, q_in 1537 (by decide +kernel) rfl, wi_X12, nq_X12, pd_X12_fault⟩, im_X12_fault, se_X12_fault⟩
theorem pd_X12_give : (parseMethodDescriptor yX12_give.desc).map (fun d => d.parameters.length) = some 2 := by decide +kernel
theorem im_X12_give : Cond.instanceMethod yX12_give ∈ q_tb := q_in 1542 (by decide +kernel) rfl
theorem se_X12_give : Cond.selects yX12_give.cls yX12_give yX12_give ∈ q_tb := q_in 1543 (by decide +kernel) rfl
theorem cv_L_48 : q_Cv RL 48 yX12_give 2 := ⟨⟨cX12_give, 4, (some .int), by decide, cd_X12_give, q_in 1541 (by decide +kernel) rfl, wi_X12, nq_X12, pd_X12_give⟩, im_X12_give, se_X12_give⟩
theorem pd_X12_poke : (parseMethodDescriptor yX12_poke.desc).map (fun d => d.parameters.length) = some 3 := by decide +kernel
theorem im_X12_poke : Cond.instanceMethod yX12_poke ∈ q_tb := q_in 1546 (by decide +kernel) rfl
theorem se_X12_poke : Cond.selects yX12_poke.cls yX12_poke yX12_poke ∈ q_tb := q_in 1547 (by decide +kernel) rfl
theorem cv_L_56 : q_Cv RL 56 yX12_poke 3 := ⟨⟨cX12_poke, 5, (some .int), by decide, cd_X12_poke, q_in 1545 (by decide +kernel) rfl, wi_X12, nq_X12, pd_X12_poke⟩, im_X12_poke, se_X12_poke⟩
theorem pd_X12_isCell : (parseMethodDescriptor yX12_isCell.desc).map (fun d => d.parameters.length) = some 2 := by decide +kernel
theorem im_X12_isCell : Cond.instanceMethod yX12_isCell ∈ q_tb := q_in 1551 (by decide +kernel) rfl
theorem se_X12_isCell : Cond.selects yX12_isCell.cls yX12_isCell yX12_isCell ∈ q_tb := q_in 80 (by decide +kernel) rfl
theorem cv_X12_343 : q_Cv RX12 343 yX12_isCell 2 := ⟨⟨cX12_isCell, 3, (some .boolean), by decide, cd_X12_isCell, q_in 1549 (by decide +kernel) rfl, wi_X12, nq_X12, pd_X12_isCell⟩, im_X12_isCell, se_X12_isCell⟩
theorem pd_X12_cell : (parseMethodDescriptor yX12_cell.desc).map (fun d => d.parameters.length) = some 2 := by decide +kernel
theorem im_X12_cell : Cond.instanceMethod yX12_cell ∈ q_tb := q_in 1554 (by decide +kernel) rfl
theorem se_X12_cell : Cond.selects yX12_cell.cls yX12_cell yX12_cell ∈ q_tb := q_in 1555 (by decide +kernel) rfl
theorem cv_L_59 : q_Cv RL 59 yX12_cell 2 := ⟨⟨cX12_cell, 3, (some .int), by decide, cd_X12_cell, q_in 1553 (by decide +kernel) rfl, wi_X12, nq_X12, pd_X12_cell⟩, im_X12_cell, se_X12_cell⟩
theorem pd_X12_latency : (parseMethodDescriptor yX12_latency.desc).map (fun d => d.parameters.length) = some 1 := by decide +kernel
theorem im_X12_latency : Cond.instanceMethod yX12_latency ∈ q_tb := q_in 1558 (by decide +kernel) rfl
theorem se_X12_latency : Cond.selects yX12_latency.cls yX12_latency yX12_latency ∈ q_tb := q_in 1559 (by decide +kernel) rfl
theorem cv_L_63 : q_Cv RL 63 yX12_latency 1 := ⟨⟨cX12_latency, 2, (some .int), by decide, cd_X12_latency, q_in 1557 (by decide +kernel) rfl, wi_X12, nq_X12, pd_X12_latency⟩, im_X12_latency, se_X12_latency⟩
theorem pd_X12_free : (parseMethodDescriptor yX12_free.desc).map (fun d => d.parameters.length) = some 0 := by decide +kernel
theorem im_X12_free : Cond.instanceMethod yX12_free ∈ q_tb := q_in 1562 (by decide +kernel) rfl
theorem se_X12_free : Cond.selects yX12_free.cls yX12_free yX12_free ∈ q_tb := q_in 1563 (by decide +kernel) rfl
theorem cv_L_67 : q_Cv RL 67 yX12_free 0 := ⟨⟨cX12_free, 2, (some .int), by decide, cd_X12_free, q_in 1561 (by decide +kernel) rfl, wi_X12, nq_X12, pd_X12_free⟩, im_X12_free, se_X12_free⟩
theorem pd_X12_stall : (parseMethodDescriptor yX12_stall.desc).map (fun d => d.parameters.length) = some 1 := by decide +kernel
theorem im_X12_stall : Cond.instanceMethod yX12_stall ∈ q_tb := q_in 1566 (by decide +kernel) rfl
theorem se_X12_stall : Cond.selects yX12_stall.cls yX12_stall yX12_stall ∈ q_tb := q_in 1567 (by decide +kernel) rfl
theorem cv_L_74 : q_Cv RL 74 yX12_stall 1 := ⟨⟨cX12_stall, 5, (some .long), by decide, cd_X12_stall, q_in 1565 (by decide +kernel) rfl, wi_X12, nq_X12, pd_X12_stall⟩, im_X12_stall, se_X12_stall⟩
theorem pd_X12_run : (parseMethodDescriptor yX12_run.desc).map (fun d => d.parameters.length) = some 1 := by decide +kernel
theorem im_X12_run : Cond.instanceMethod yX12_run ∈ q_tb := q_in 1571 (by decide +kernel) rfl
theorem se_X12_run : Cond.selects yX12_run.cls yX12_run yX12_run ∈ q_tb := q_in 1572 (by decide +kernel) rfl
theorem cv_L_78 : q_Cv RL 78 yX12_run 1 := ⟨⟨cX12_run, 3, (some .int), by decide, cd_X12_run, q_in 1570 (by decide +kernel) rfl, wi_X12, nq_X12, pd_X12_run⟩, im_X12_run, se_X12_run⟩
theorem pd_X12_begins : (parseMethodDescriptor yX12_begins.desc).map (fun d => d.parameters.length) = some 0 := by decide +kernel
theorem im_X12_begins : Cond.instanceMethod yX12_begins ∈ q_tb := q_in 1576 (by decide +kernel) rfl
theorem se_X12_begins : Cond.selects yX12_begins.cls yX12_begins yX12_begins ∈ q_tb := q_in 81 (by decide +kernel) rfl
theorem cv_X12_405 : q_Cv RX12 405 yX12_begins 0 := ⟨⟨cX12_begins, 1, (some .boolean), by decide, cd_X12_begins, q_in 1574 (by decide +kernel) rfl, wi_X12, nq_X12, pd_X12_begins⟩, im_X12_begins, se_X12_begins⟩
theorem pd_X12_goes : (parseMethodDescriptor yX12_goes.desc).map (fun d => d.parameters.length) = some 1 := by decide +kernel
theorem im_X12_goes : Cond.instanceMethod yX12_goes ∈ q_tb := q_in 1580 (by decide +kernel) rfl
theorem se_X12_goes : Cond.selects yX12_goes.cls yX12_goes yX12_goes ∈ q_tb := q_in 82 (by decide +kernel) rfl
theorem cv_X12_399 : q_Cv RX12 399 yX12_goes 1 := ⟨⟨cX12_goes, 4, (some .int), by decide, cd_X12_goes, q_in 1578 (by decide +kernel) rfl, wi_X12, nq_X12, pd_X12_goes⟩, im_X12_goes, se_X12_goes⟩
theorem pd_X12_goesOne : (parseMethodDescriptor yX12_goesOne.desc).map (fun d => d.parameters.length) = some 1 := by decide +kernel
theorem im_X12_goesOne : Cond.instanceMethod yX12_goesOne ∈ q_tb := q_in 1584 (by decide +kernel) rfl
theorem se_X12_goesOne : Cond.selects yX12_goesOne.cls yX12_goesOne yX12_goesOne ∈ q_tb := q_in 83 (by decide +kernel) rfl
theorem cv_X12_381 : q_Cv RX12 381 yX12_goesOne 1 := ⟨⟨cX12_goesOne, 2, (some .int), by decide, cd_X12_goesOne, q_in 1582 (by decide +kernel) rfl, wi_X12, nq_X12, pd_X12_goesOne⟩, im_X12_goesOne, se_X12_goesOne⟩
theorem pd_X12_tells : (parseMethodDescriptor yX12_tells.desc).map (fun d => d.parameters.length) = some 1 := by decide +kernel
theorem im_X12_tells : Cond.instanceMethod yX12_tells ∈ q_tb := q_in 1588 (by decide +kernel) rfl
theorem se_X12_tells : Cond.selects yX12_tells.cls yX12_tells yX12_tells ∈ q_tb := q_in 84 (by decide +kernel) rfl
theorem cv_X12_384 : q_Cv RX12 384 yX12_tells 1 := ⟨⟨cX12_tells, 5, (some .int), by decide, cd_X12_tells, q_in 1586 (by decide +kernel) rfl, wi_X12, nq_X12, pd_X12_tells⟩, im_X12_tells, se_X12_tells⟩
theorem pd_X12_placeOf : (parseMethodDescriptor yX12_placeOf.desc).map (fun d => d.parameters.length) = some 2 := by decide +kernel
theorem im_X12_placeOf : Cond.instanceMethod yX12_placeOf ∈ q_tb := q_in 1592 (by decide +kernel) rfl
theorem se_X12_placeOf : Cond.selects yX12_placeOf.cls yX12_placeOf yX12_placeOf ∈ q_tb := q_in 85 (by decide +kernel) rfl
theorem cv_X12_365 : q_Cv RX12 365 yX12_placeOf 2 := ⟨⟨cX12_placeOf, 4, (some .int), by decide, cd_X12_placeOf, q_in 1590 (by decide +kernel) rfl, wi_X12, nq_X12, pd_X12_placeOf⟩, im_X12_placeOf, se_X12_placeOf⟩
theorem pd_X12_truth : (parseMethodDescriptor yX12_truth.desc).map (fun d => d.parameters.length) = some 1 := by decide +kernel
theorem sm_X12_truth : Cond.static yX12_truth ∈ q_tb := q_in 1595 (by decide +kernel) rfl
theorem cs_X12_355 : q_Cs RX12 355 yX12_truth 1 := ⟨⟨cX12_truth, 1, (some .int), by decide, cd_X12_truth, q_in 1594 (by decide +kernel) rfl, wi_X12, nq_X12, pd_X12_truth⟩, sm_X12_truth⟩
theorem pd_X12_works : (parseMethodDescriptor yX12_works.desc).map (fun d => d.parameters.length) = some 3 := by decide +kernel
theorem sm_X12_works : Cond.static yX12_works ∈ q_tb := q_in 1598 (by decide +kernel) rfl
theorem cs_X12_371 : q_Cs RX12 371 yX12_works 3 := ⟨⟨cX12_works, 3, (some .int), by decide, cd_X12_works, q_in 1597 (by decide +kernel) rfl, wi_X12, nq_X12, pd_X12_works⟩, sm_X12_works⟩
theorem pd_X12_divided : (parseMethodDescriptor yX12_divided.desc).map (fun d => d.parameters.length) = some 2 := by decide +kernel
theorem sm_X12_divided : Cond.static yX12_divided ∈ q_tb := q_in 1601 (by decide +kernel) rfl
theorem cs_X12_359 : q_Cs RX12 359 yX12_divided 2 := ⟨⟨cX12_divided, 2, (some .int), by decide, cd_X12_divided, q_in 1600 (by decide +kernel) rfl, wi_X12, nq_X12, pd_X12_divided⟩, sm_X12_divided⟩
theorem pd_X12_rest : (parseMethodDescriptor yX12_rest.desc).map (fun d => d.parameters.length) = some 2 := by decide +kernel
theorem sm_X12_rest : Cond.static yX12_rest ∈ q_tb := q_in 1604 (by decide +kernel) rfl
theorem cs_X12_362 : q_Cs RX12 362 yX12_rest 2 := ⟨⟨cX12_rest, 2, (some .int), by decide, cd_X12_rest, q_in 1603 (by decide +kernel) rfl, wi_X12, nq_X12, pd_X12_rest⟩, sm_X12_rest⟩
theorem pd_X12_stores : (parseMethodDescriptor yX12_stores.desc).map (fun d => d.parameters.length) = some 1 := by decide +kernel
theorem im_X12_stores : Cond.instanceMethod yX12_stores ∈ q_tb := q_in 1608 (by decide +kernel) rfl
theorem se_X12_stores : Cond.selects yX12_stores.cls yX12_stores yX12_stores ∈ q_tb := q_in 86 (by decide +kernel) rfl
theorem cv_X12_387 : q_Cv RX12 387 yX12_stores 1 := ⟨⟨cX12_stores, 5, none, by decide, cd_X12_stores, q_in 1606 (by decide +kernel) rfl, wi_X12, nq_X12, pd_X12_stores⟩, im_X12_stores, se_X12_stores⟩
theorem pd_X12_goesIf : (parseMethodDescriptor yX12_goesIf.desc).map (fun d => d.parameters.length) = some 1 := by decide +kernel
theorem im_X12_goesIf : Cond.instanceMethod yX12_goesIf ∈ q_tb := q_in 1612 (by decide +kernel) rfl
theorem se_X12_goesIf : Cond.selects yX12_goesIf.cls yX12_goesIf yX12_goesIf ∈ q_tb := q_in 87 (by decide +kernel) rfl
theorem cv_X12_390 : q_Cv RX12 390 yX12_goesIf 1 := ⟨⟨cX12_goesIf, 4, (some .int), by decide, cd_X12_goesIf, q_in 1610 (by decide +kernel) rfl, wi_X12, nq_X12, pd_X12_goesIf⟩, im_X12_goesIf, se_X12_goesIf⟩
theorem pd_X12_goesWhile : (parseMethodDescriptor yX12_goesWhile.desc).map (fun d => d.parameters.length) = some 1 := by decide +kernel
theorem im_X12_goesWhile : Cond.instanceMethod yX12_goesWhile ∈ q_tb := q_in 1616 (by decide +kernel) rfl
theorem se_X12_goesWhile : Cond.selects yX12_goesWhile.cls yX12_goesWhile yX12_goesWhile ∈ q_tb := q_in 88 (by decide +kernel) rfl
theorem cv_X12_393 : q_Cv RX12 393 yX12_goesWhile 1 := ⟨⟨cX12_goesWhile, 3, (some .int), by decide, cd_X12_goesWhile, q_in 1614 (by decide +kernel) rfl, wi_X12, nq_X12, pd_X12_goesWhile⟩, im_X12_goesWhile, se_X12_goesWhile⟩
theorem pd_X12_told_ : (parseMethodDescriptor yX12_told_.desc).map (fun d => d.parameters.length) = some 1 := by decide +kernel
theorem im_X12_told_ : Cond.instanceMethod yX12_told_ ∈ q_tb := q_in 1619 (by decide +kernel) rfl
theorem se_X12_told_ : Cond.selects yX12_told_.cls yX12_told_ yX12_told_ ∈ q_tb := q_in 1620 (by decide +kernel) rfl
theorem cv_L_82 : q_Cv RL 82 yX12_told_ 1 := ⟨⟨cX12_told_, 2, (some .int), by decide, cd_X12_told_, q_in 1618 (by decide +kernel) rfl, wi_X12, nq_X12, pd_X12_told_⟩, im_X12_told_, se_X12_told_⟩
theorem pd_X12_write : (parseMethodDescriptor yX12_write.desc).map (fun d => d.parameters.length) = some 2 := by decide +kernel
theorem im_X12_write : Cond.instanceMethod yX12_write ∈ q_tb := q_in 1623 (by decide +kernel) rfl
theorem se_X12_write : Cond.selects yX12_write.cls yX12_write yX12_write ∈ q_tb := q_in 1624 (by decide +kernel) rfl
theorem cv_L_85 : q_Cv RL 85 yX12_write 2 := ⟨⟨cX12_write, 3, (some .int), by decide, cd_X12_write, q_in 1622 (by decide +kernel) rfl, wi_X12, nq_X12, pd_X12_write⟩, im_X12_write, se_X12_write⟩
theorem cs_X12_412 : q_Cs RX12 412 yJ9_min_7cf53 2 := ⟨⟨cJ9_min_7cf53, 2, (some .int), by decide, cd_J9_min_7cf53, q_in 1626 (by decide +kernel) rfl, wi_J9, nq_J9, pd_J9_min_7cf53⟩, sm_J9_min_7cf53⟩
theorem pd_X12_count : (parseMethodDescriptor yX12_count.desc).map (fun d => d.parameters.length) = some 1 := by decide +kernel
theorem im_X12_count : Cond.instanceMethod yX12_count ∈ q_tb := q_in 1628 (by decide +kernel) rfl
theorem se_X12_count : Cond.selects yX12_count.cls yX12_count yX12_count ∈ q_tb := q_in 1629 (by decide +kernel) rfl
theorem cv_L_89 : q_Cv RL 89 yX12_count 1 := ⟨⟨cX12_count, 2, (some .int), by decide, cd_X12_count, q_in 1627 (by decide +kernel) rfl, wi_X12, nq_X12, pd_X12_count⟩, im_X12_count, se_X12_count⟩
theorem pd_X12_size : (parseMethodDescriptor yX12_size.desc).map (fun d => d.parameters.length) = some 1 := by decide +kernel
theorem im_X12_size : Cond.instanceMethod yX12_size ∈ q_tb := q_in 1632 (by decide +kernel) rfl
theorem se_X12_size : Cond.selects yX12_size.cls yX12_size yX12_size ∈ q_tb := q_in 1633 (by decide +kernel) rfl
theorem cv_L_93 : q_Cv RL 93 yX12_size 1 := ⟨⟨cX12_size, 2, (some .int), by decide, cd_X12_size, q_in 1631 (by decide +kernel) rfl, wi_X12, nq_X12, pd_X12_size⟩, im_X12_size, se_X12_size⟩
