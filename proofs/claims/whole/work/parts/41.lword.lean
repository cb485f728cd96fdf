theorem zkL_13 : Cond.methodLink RL 13 yX11_feed ∈ AW := aw_t (i := 472) (by decide +kernel) rfl
theorem zkL_17 : Cond.methodLink RL 17 yX12_feed ∈ AW := aw_t (i := 1274) (by decide +kernel) rfl
theorem zkL_18 : Cond.methodLink RL 18 yX11_end ∈ AW := aw_t (i := 480) (by decide +kernel) rfl
theorem zkL_22 : Cond.methodLink RL 22 yX12_end ∈ AW := aw_t (i := 1282) (by decide +kernel) rfl
theorem zkL_23 : Cond.methodLink RL 23 yX11_bench ∈ AW := aw_t (i := 484) (by decide +kernel) rfl
theorem zkL_27 : Cond.methodLink RL 27 yX12_bench ∈ AW := aw_t (i := 1289) (by decide +kernel) rfl
theorem zkL_28 : Cond.methodLink RL 28 yX11_fault ∈ AW := aw_t (i := 675) (by decide +kernel) rfl
theorem zkL_31 : Cond.methodLink RL 31 yX12_fault ∈ AW := aw_t (i := 1392) (by decide +kernel) rfl
theorem zkL_32 : Cond.methodLink RL 32 yX11_table ∈ AW := aw_t (i := 679) (by decide +kernel) rfl
theorem zkL_36 : Cond.methodLink RL 36 yX12_table ∈ AW := aw_t (i := 1396) (by decide +kernel) rfl
theorem zkL_37 : Cond.methodLink RL 37 yX11_current ∈ AW := aw_t (i := 685) (by decide +kernel) rfl
theorem zkL_40 : Cond.methodLink RL 40 yX12_current ∈ AW := aw_t (i := 1402) (by decide +kernel) rfl
theorem zkL_41 : Cond.methodLink RL 41 yX11_field ∈ AW := aw_t (i := 692) (by decide +kernel) rfl
theorem zkL_44 : Cond.methodLink RL 44 yX12_field ∈ AW := aw_t (i := 1421) (by decide +kernel) rfl
theorem zkL_45 : Cond.methodLink RL 45 yX11_mend ∈ AW := aw_t (i := 710) (by decide +kernel) rfl
theorem zkL_48 : Cond.methodLink RL 48 yX12_mend ∈ AW := aw_t (i := 1430) (by decide +kernel) rfl
theorem zkL_49 : Cond.methodLink RL 49 yX11_tuned ∈ AW := aw_t (i := 721) (by decide +kernel) rfl
theorem zkL_52 : Cond.methodLink RL 52 yX12_tuned ∈ AW := aw_t (i := 1437) (by decide +kernel) rfl
theorem zkL_53 : Cond.methodLink RL 53 yX11_ramp ∈ AW := aw_t (i := 726) (by decide +kernel) rfl
theorem zkL_57 : Cond.methodLink RL 57 yX12_ramp ∈ AW := aw_t (i := 1446) (by decide +kernel) rfl
theorem zkL_58 : Cond.methodLink RL 58 yX11_rampAt ∈ AW := aw_t (i := 753) (by decide +kernel) rfl
theorem zkL_61 : Cond.methodLink RL 61 yX12_rampAt ∈ AW := aw_t (i := 1471) (by decide +kernel) rfl
theorem zkL_62 : Cond.methodLink RL 62 yX11_path ∈ AW := aw_t (i := 758) (by decide +kernel) rfl
theorem zkL_65 : Cond.methodLink RL 65 yX12_path ∈ AW := aw_t (i := 1487) (by decide +kernel) rfl
theorem zkL_66 : Cond.methodLink RL 66 yX11_pathAt ∈ AW := aw_t (i := 808) (by decide +kernel) rfl
theorem zkL_69 : Cond.methodLink RL 69 yX12_pathAt ∈ AW := aw_t (i := 1545) (by decide +kernel) rfl
theorem zkL_70 : Cond.methodLink RL 70 yX11_stamp ∈ AW := aw_t (i := 826) (by decide +kernel) rfl
theorem zkL_73 : Cond.methodLink RL 73 yX12_stamp ∈ AW := aw_t (i := 1552) (by decide +kernel) rfl
theorem zkL_74 : Cond.methodLink RL 74 yX11_peak ∈ AW := aw_t (i := 840) (by decide +kernel) rfl
theorem zkL_77 : Cond.methodLink RL 77 yX12_peak ∈ AW := aw_t (i := 1560) (by decide +kernel) rfl
theorem zkL_78 : Cond.methodLink RL 78 yX11_needed ∈ AW := aw_t (i := 848) (by decide +kernel) rfl
theorem zkL_82 : Cond.methodLink RL 82 yX12_needed ∈ AW := aw_t (i := 1564) (by decide +kernel) rfl
theorem zkL_83 : Cond.methodLink RL 83 yX11_most ∈ AW := aw_t (i := 858) (by decide +kernel) rfl
theorem zkL_86 : Cond.methodLink RL 86 yX12_most ∈ AW := aw_t (i := 1573) (by decide +kernel) rfl
theorem zkL_87 : Cond.methodLink RL 87 yX11_drives ∈ AW := aw_t (i := 864) (by decide +kernel) rfl
theorem zkL_91 : Cond.methodLink RL 91 yX12_drives ∈ AW := aw_t (i := 1577) (by decide +kernel) rfl
theorem zkL_92 : Cond.methodLink RL 92 yX11_quickest ∈ AW := aw_t (i := 880) (by decide +kernel) rfl
theorem zkL_95 : Cond.methodLink RL 95 yX12_quickest ∈ AW := aw_t (i := 1569) (by decide +kernel) rfl
theorem zkL_96 : Cond.methodLink RL 96 yX11_go ∈ AW := aw_t (i := 885) (by decide +kernel) rfl
theorem zkL_99 : Cond.methodLink RL 99 yX12_go ∈ AW := aw_t (i := 1590) (by decide +kernel) rfl
theorem zkL_100 : Cond.methodLink RL 100 yX11_halt ∈ AW := aw_t (i := 919) (by decide +kernel) rfl
theorem zkL_103 : Cond.methodLink RL 103 yX12_halt ∈ AW := aw_t (i := 1602) (by decide +kernel) rfl
theorem zkL_104 : Cond.methodLink RL 104 yX11_run ∈ AW := aw_t (i := 928) (by decide +kernel) rfl
theorem zkL_107 : Cond.methodLink RL 107 yX12_run ∈ AW := aw_t (i := 1629) (by decide +kernel) rfl
theorem zkL_108 : Cond.methodLink RL 108 yX11_queue ∈ AW := aw_t (i := 976) (by decide +kernel) rfl
theorem zkL_111 : Cond.methodLink RL 111 yX12_queue ∈ AW := aw_t (i := 1606) (by decide +kernel) rfl
theorem zkL_112 : Cond.methodLink RL 112 yX11_watch ∈ AW := aw_t (i := 984) (by decide +kernel) rfl
theorem zkL_115 : Cond.methodLink RL 115 yX12_watch ∈ AW := aw_t (i := 1610) (by decide +kernel) rfl
theorem zkL_116 : Cond.methodLink RL 116 yX11_load ∈ AW := aw_t (i := 988) (by decide +kernel) rfl
theorem zkL_119 : Cond.methodLink RL 119 yX12_load ∈ AW := aw_t (i := 1619) (by decide +kernel) rfl
theorem zkL_120 : Cond.methodLink RL 120 yX11_trueUp ∈ AW := aw_t (i := 992) (by decide +kernel) rfl
theorem zkL_123 : Cond.methodLink RL 123 yX12_trueUp ∈ AW := aw_t (i := 1625) (by decide +kernel) rfl
theorem zkL_124 : Cond.methodLink RL 124 yX11_undo ∈ AW := aw_t (i := 1003) (by decide +kernel) rfl
theorem zkL_127 : Cond.methodLink RL 127 yX12_undo ∈ AW := aw_t (i := 1586) (by decide +kernel) rfl
theorem zkL_128 : Cond.methodLink RL 128 yX11_axis ∈ AW := aw_t (i := 1011) (by decide +kernel) rfl
theorem zkL_131 : Cond.methodLink RL 131 yX12_axis ∈ AW := aw_t (i := 1678) (by decide +kernel) rfl
theorem zkL_132 : Cond.methodLink RL 132 yX11_now ∈ AW := aw_t (i := 1015) (by decide +kernel) rfl
theorem zkL_135 : Cond.methodLink RL 135 yX12_now ∈ AW := aw_t (i := 1683) (by decide +kernel) rfl
theorem zkL_136 : Cond.methodLink RL 136 yX11_bands ∈ AW := aw_t (i := 1021) (by decide +kernel) rfl
theorem zkL_139 : Cond.methodLink RL 139 yX12_bands ∈ AW := aw_t (i := 1475) (by decide +kernel) rfl
theorem zkL_140 : Cond.methodLink RL 140 yX11_stallIn ∈ AW := aw_t (i := 1026) (by decide +kernel) rfl
theorem zkL_143 : Cond.methodLink RL 143 yX12_stallIn ∈ AW := aw_t (i := 1687) (by decide +kernel) rfl
theorem zkL_144 : Cond.methodLink RL 144 yX11_calmIn ∈ AW := aw_t (i := 1031) (by decide +kernel) rfl
theorem zkL_147 : Cond.methodLink RL 147 yX12_calmIn ∈ AW := aw_t (i := 1699) (by decide +kernel) rfl
theorem zkL_148 : Cond.methodLink RL 148 yX11_carries ∈ AW := aw_t (i := 1043) (by decide +kernel) rfl
theorem zkL_151 : Cond.methodLink RL 151 yX12_carries ∈ AW := aw_t (i := 1707) (by decide +kernel) rfl
theorem zkL_152 : Cond.methodLink RL 152 yX11_strain ∈ AW := aw_t (i := 1047) (by decide +kernel) rfl
theorem zkL_155 : Cond.methodLink RL 155 yX12_strain ∈ AW := aw_t (i := 1716) (by decide +kernel) rfl
theorem zkL_156 : Cond.methodLink RL 156 yX11_swings ∈ AW := aw_t (i := 1051) (by decide +kernel) rfl
theorem zkL_159 : Cond.methodLink RL 159 yX12_swings ∈ AW := aw_t (i := 1737) (by decide +kernel) rfl
theorem zkL_160 : Cond.methodLink RL 160 yX11_settles ∈ AW := aw_t (i := 1063) (by decide +kernel) rfl
theorem zkL_163 : Cond.methodLink RL 163 yX12_settles ∈ AW := aw_t (i := 1749) (by decide +kernel) rfl
theorem zkL_164 : Cond.methodLink RL 164 yX11_shake ∈ AW := aw_t (i := 1068) (by decide +kernel) rfl
theorem zkL_167 : Cond.methodLink RL 167 yX12_shake ∈ AW := aw_t (i := 1720) (by decide +kernel) rfl
theorem zkL_168 : Cond.methodLink RL 168 yX11_worst ∈ AW := aw_t (i := 1076) (by decide +kernel) rfl
theorem zkL_171 : Cond.methodLink RL 171 yX12_worst ∈ AW := aw_t (i := 1728) (by decide +kernel) rfl
theorem zkL_172 : Cond.methodLink RL 172 yX11_unsafe ∈ AW := aw_t (i := 1080) (by decide +kernel) rfl
theorem zkL_175 : Cond.methodLink RL 175 yX12_unsafe ∈ AW := aw_t (i := 1733) (by decide +kernel) rfl
theorem zkL_176 : Cond.methodLink RL 176 yX11_coil ∈ AW := aw_t (i := 1084) (by decide +kernel) rfl
theorem zkL_179 : Cond.methodLink RL 179 yX12_coil ∈ AW := aw_t (i := 1753) (by decide +kernel) rfl
theorem zkL_180 : Cond.methodLink RL 180 yX11_follows ∈ AW := aw_t (i := 1088) (by decide +kernel) rfl
theorem zkL_183 : Cond.methodLink RL 183 yX12_follows ∈ AW := aw_t (i := 1757) (by decide +kernel) rfl
theorem zkL_184 : Cond.methodLink RL 184 yX11_ripple ∈ AW := aw_t (i := 1096) (by decide +kernel) rfl
theorem zkL_187 : Cond.methodLink RL 187 yX12_ripple ∈ AW := aw_t (i := 1770) (by decide +kernel) rfl
theorem zkL_188 : Cond.methodLink RL 188 yX11_mode ∈ AW := aw_t (i := 1101) (by decide +kernel) rfl
theorem zkL_191 : Cond.methodLink RL 191 yX12_mode ∈ AW := aw_t (i := 1766) (by decide +kernel) rfl
theorem zkL_192 : Cond.methodLink RL 192 yX11_about ∈ AW := aw_t (i := 1105) (by decide +kernel) rfl
theorem zkL_195 : Cond.methodLink RL 195 yX12_about ∈ AW := aw_t (i := 1774) (by decide +kernel) rfl
theorem zyX11_feed : zMth yX11_feed cX11_feed 6 (some .int) 5 := ⟨aw_t (i := 473) (by decide +kernel) rfl, aw_t (i := 474) (by decide +kernel) rfl, aw_t (i := 1) (by decide +kernel) rfl, aw_t (i := 475) (by decide +kernel) rfl, by decide +kernel⟩
theorem zyX12_feed : zMth yX12_feed cX12_feed 6 (some .int) 5 := ⟨aw_t (i := 1275) (by decide +kernel) rfl, aw_t (i := 1276) (by decide +kernel) rfl, aw_t (i := 13) (by decide +kernel) rfl, aw_t (i := 1277) (by decide +kernel) rfl, by decide +kernel⟩
theorem zyX11_end : zMth yX11_end cX11_end 2 (some .int) 1 := ⟨aw_t (i := 481) (by decide +kernel) rfl, aw_t (i := 482) (by decide +kernel) rfl, aw_t (i := 1) (by decide +kernel) rfl, aw_t (i := 483) (by decide +kernel) rfl, by decide +kernel⟩
theorem zyX12_end : zMth yX12_end cX12_end 2 (some .int) 1 := ⟨aw_t (i := 1283) (by decide +kernel) rfl, aw_t (i := 1284) (by decide +kernel) rfl, aw_t (i := 13) (by decide +kernel) rfl, aw_t (i := 1285) (by decide +kernel) rfl, by decide +kernel⟩
theorem zyX11_bench : zMth yX11_bench cX11_bench 3 (some .int) 0 := ⟨aw_t (i := 485) (by decide +kernel) rfl, aw_t (i := 486) (by decide +kernel) rfl, aw_t (i := 1) (by decide +kernel) rfl, aw_t (i := 487) (by decide +kernel) rfl, by decide +kernel⟩
theorem zyX12_bench : zMth yX12_bench cX12_bench 2 (some .int) 0 := ⟨aw_t (i := 1290) (by decide +kernel) rfl, aw_t (i := 1291) (by decide +kernel) rfl, aw_t (i := 13) (by decide +kernel) rfl, aw_t (i := 1292) (by decide +kernel) rfl, by decide +kernel⟩
theorem zyX11_fault : zMth yX11_fault cX11_fault 2 (some .int) 1 := ⟨aw_t (i := 676) (by decide +kernel) rfl, aw_t (i := 677) (by decide +kernel) rfl, aw_t (i := 1) (by decide +kernel) rfl, aw_t (i := 678) (by decide +kernel) rfl, by decide +kernel⟩
theorem zyX12_fault : zMth yX12_fault cX12_fault 2 (some .int) 1 := ⟨aw_t (i := 1393) (by decide +kernel) rfl, aw_t (i := 1394) (by decide +kernel) rfl, aw_t (i := 13) (by decide +kernel) rfl, aw_t (i := 1395) (by decide +kernel) rfl, by decide +kernel⟩
theorem zyX11_table : zMth yX11_table cX11_table 3 (some .int) 2 := ⟨aw_t (i := 680) (by decide +kernel) rfl, aw_t (i := 681) (by decide +kernel) rfl, aw_t (i := 1) (by decide +kernel) rfl, aw_t (i := 682) (by decide +kernel) rfl, by decide +kernel⟩
theorem zyX12_table : zMth yX12_table cX12_table 3 (some .int) 2 := ⟨aw_t (i := 1397) (by decide +kernel) rfl, aw_t (i := 1398) (by decide +kernel) rfl, aw_t (i := 13) (by decide +kernel) rfl, aw_t (i := 1399) (by decide +kernel) rfl, by decide +kernel⟩
theorem zyX11_current : zMth yX11_current cX11_current 3 (some .int) 2 := ⟨aw_t (i := 686) (by decide +kernel) rfl, aw_t (i := 687) (by decide +kernel) rfl, aw_t (i := 1) (by decide +kernel) rfl, aw_t (i := 688) (by decide +kernel) rfl, by decide +kernel⟩
theorem zyX12_current : zMth yX12_current cX12_current 3 (some .int) 2 := ⟨aw_t (i := 1403) (by decide +kernel) rfl, aw_t (i := 1404) (by decide +kernel) rfl, aw_t (i := 13) (by decide +kernel) rfl, aw_t (i := 1405) (by decide +kernel) rfl, by decide +kernel⟩
theorem zyX11_field : zMth yX11_field cX11_field 2 (some .int) 1 := ⟨aw_t (i := 693) (by decide +kernel) rfl, aw_t (i := 694) (by decide +kernel) rfl, aw_t (i := 1) (by decide +kernel) rfl, aw_t (i := 695) (by decide +kernel) rfl, by decide +kernel⟩
theorem zyX11_mend : zMth yX11_mend cX11_mend 2 (some .int) 1 := ⟨aw_t (i := 711) (by decide +kernel) rfl, aw_t (i := 712) (by decide +kernel) rfl, aw_t (i := 1) (by decide +kernel) rfl, aw_t (i := 713) (by decide +kernel) rfl, by decide +kernel⟩
theorem zyX11_tuned : zMth yX11_tuned cX11_tuned 5 (some .int) 1 := ⟨aw_t (i := 722) (by decide +kernel) rfl, aw_t (i := 723) (by decide +kernel) rfl, aw_t (i := 1) (by decide +kernel) rfl, aw_t (i := 724) (by decide +kernel) rfl, by decide +kernel⟩
theorem zyX12_tuned : zMth yX12_tuned cX12_tuned 5 (some .int) 1 := ⟨aw_t (i := 1438) (by decide +kernel) rfl, aw_t (i := 1439) (by decide +kernel) rfl, aw_t (i := 13) (by decide +kernel) rfl, aw_t (i := 1440) (by decide +kernel) rfl, by decide +kernel⟩
theorem zyX11_ramp : zMth yX11_ramp cX11_ramp 5 (some .int) 4 := ⟨aw_t (i := 727) (by decide +kernel) rfl, aw_t (i := 728) (by decide +kernel) rfl, aw_t (i := 1) (by decide +kernel) rfl, aw_t (i := 729) (by decide +kernel) rfl, by decide +kernel⟩
theorem zyX12_ramp : zMth yX12_ramp cX12_ramp 5 (some .int) 4 := ⟨aw_t (i := 1447) (by decide +kernel) rfl, aw_t (i := 1448) (by decide +kernel) rfl, aw_t (i := 13) (by decide +kernel) rfl, aw_t (i := 1449) (by decide +kernel) rfl, by decide +kernel⟩
theorem zyX11_rampAt : zMth yX11_rampAt cX11_rampAt 5 (some .int) 4 := ⟨aw_t (i := 754) (by decide +kernel) rfl, aw_t (i := 755) (by decide +kernel) rfl, aw_t (i := 1) (by decide +kernel) rfl, aw_t (i := 756) (by decide +kernel) rfl, by decide +kernel⟩
theorem zyX12_rampAt : zMth yX12_rampAt cX12_rampAt 5 (some .int) 4 := ⟨aw_t (i := 1472) (by decide +kernel) rfl, aw_t (i := 1473) (by decide +kernel) rfl, aw_t (i := 13) (by decide +kernel) rfl, aw_t (i := 1474) (by decide +kernel) rfl, by decide +kernel⟩
theorem zyX11_path : zMth yX11_path cX11_path 5 (some .int) 4 := ⟨aw_t (i := 759) (by decide +kernel) rfl, aw_t (i := 760) (by decide +kernel) rfl, aw_t (i := 1) (by decide +kernel) rfl, aw_t (i := 761) (by decide +kernel) rfl, by decide +kernel⟩
theorem zyX12_path : zMth yX12_path cX12_path 5 (some .int) 4 := ⟨aw_t (i := 1488) (by decide +kernel) rfl, aw_t (i := 1489) (by decide +kernel) rfl, aw_t (i := 13) (by decide +kernel) rfl, aw_t (i := 1490) (by decide +kernel) rfl, by decide +kernel⟩
theorem zyX11_pathAt : zMth yX11_pathAt cX11_pathAt 6 (some .int) 5 := ⟨aw_t (i := 809) (by decide +kernel) rfl, aw_t (i := 810) (by decide +kernel) rfl, aw_t (i := 1) (by decide +kernel) rfl, aw_t (i := 811) (by decide +kernel) rfl, by decide +kernel⟩
theorem zyX12_pathAt : zMth yX12_pathAt cX12_pathAt 8 (some .int) 5 := ⟨aw_t (i := 1546) (by decide +kernel) rfl, aw_t (i := 1547) (by decide +kernel) rfl, aw_t (i := 13) (by decide +kernel) rfl, aw_t (i := 1548) (by decide +kernel) rfl, by decide +kernel⟩
theorem zyX11_stamp : zMth yX11_stamp cX11_stamp 6 (some .int) 5 := ⟨aw_t (i := 827) (by decide +kernel) rfl, aw_t (i := 828) (by decide +kernel) rfl, aw_t (i := 1) (by decide +kernel) rfl, aw_t (i := 829) (by decide +kernel) rfl, by decide +kernel⟩
theorem zyX12_stamp : zMth yX12_stamp cX12_stamp 7 (some .int) 5 := ⟨aw_t (i := 1553) (by decide +kernel) rfl, aw_t (i := 1554) (by decide +kernel) rfl, aw_t (i := 13) (by decide +kernel) rfl, aw_t (i := 1555) (by decide +kernel) rfl, by decide +kernel⟩
theorem zyX11_peak : zMth yX11_peak cX11_peak 5 (some .int) 4 := ⟨aw_t (i := 841) (by decide +kernel) rfl, aw_t (i := 842) (by decide +kernel) rfl, aw_t (i := 1) (by decide +kernel) rfl, aw_t (i := 843) (by decide +kernel) rfl, by decide +kernel⟩
theorem zyX12_peak : zMth yX12_peak cX12_peak 12 (some .int) 4 := ⟨aw_t (i := 1561) (by decide +kernel) rfl, aw_t (i := 1562) (by decide +kernel) rfl, aw_t (i := 13) (by decide +kernel) rfl, aw_t (i := 1563) (by decide +kernel) rfl, by decide +kernel⟩
theorem zyX11_needed : zMth yX11_needed cX11_needed 6 (some .int) 3 := ⟨aw_t (i := 849) (by decide +kernel) rfl, aw_t (i := 850) (by decide +kernel) rfl, aw_t (i := 1) (by decide +kernel) rfl, aw_t (i := 851) (by decide +kernel) rfl, by decide +kernel⟩
theorem zyX12_needed : zMth yX12_needed cX12_needed 5 (some .int) 3 := ⟨aw_t (i := 1565) (by decide +kernel) rfl, aw_t (i := 1566) (by decide +kernel) rfl, aw_t (i := 13) (by decide +kernel) rfl, aw_t (i := 1567) (by decide +kernel) rfl, by decide +kernel⟩
theorem zyX11_most : zMth yX11_most cX11_most 10 (some .int) 4 := ⟨aw_t (i := 859) (by decide +kernel) rfl, aw_t (i := 860) (by decide +kernel) rfl, aw_t (i := 1) (by decide +kernel) rfl, aw_t (i := 861) (by decide +kernel) rfl, by decide +kernel⟩
theorem zyX12_most : zMth yX12_most cX12_most 9 (some .int) 4 := ⟨aw_t (i := 1574) (by decide +kernel) rfl, aw_t (i := 1575) (by decide +kernel) rfl, aw_t (i := 13) (by decide +kernel) rfl, aw_t (i := 1576) (by decide +kernel) rfl, by decide +kernel⟩
theorem zyX11_drives : zMth yX11_drives cX11_drives 14 (some .int) 6 := ⟨aw_t (i := 865) (by decide +kernel) rfl, aw_t (i := 866) (by decide +kernel) rfl, aw_t (i := 1) (by decide +kernel) rfl, aw_t (i := 867) (by decide +kernel) rfl, by decide +kernel⟩
theorem zyX12_drives : zMth yX12_drives cX12_drives 13 (some .int) 6 := ⟨aw_t (i := 1578) (by decide +kernel) rfl, aw_t (i := 1579) (by decide +kernel) rfl, aw_t (i := 13) (by decide +kernel) rfl, aw_t (i := 1580) (by decide +kernel) rfl, by decide +kernel⟩
theorem zyX11_quickest : zMth yX11_quickest cX11_quickest 8 (some .int) 3 := ⟨aw_t (i := 881) (by decide +kernel) rfl, aw_t (i := 882) (by decide +kernel) rfl, aw_t (i := 1) (by decide +kernel) rfl, aw_t (i := 883) (by decide +kernel) rfl, by decide +kernel⟩
theorem zyX12_quickest : zMth yX12_quickest cX12_quickest 8 (some .int) 3 := ⟨aw_t (i := 1570) (by decide +kernel) rfl, aw_t (i := 1571) (by decide +kernel) rfl, aw_t (i := 13) (by decide +kernel) rfl, aw_t (i := 1572) (by decide +kernel) rfl, by decide +kernel⟩
theorem zyX11_go : zMth yX11_go cX11_go 4 (some .int) 3 := ⟨aw_t (i := 886) (by decide +kernel) rfl, aw_t (i := 887) (by decide +kernel) rfl, aw_t (i := 1) (by decide +kernel) rfl, aw_t (i := 888) (by decide +kernel) rfl, by decide +kernel⟩
theorem zyX12_go : zMth yX12_go cX12_go 4 (some .int) 3 := ⟨aw_t (i := 1591) (by decide +kernel) rfl, aw_t (i := 1592) (by decide +kernel) rfl, aw_t (i := 13) (by decide +kernel) rfl, aw_t (i := 1593) (by decide +kernel) rfl, by decide +kernel⟩
theorem zyX11_halt : zMth yX11_halt cX11_halt 2 (some .int) 0 := ⟨aw_t (i := 920) (by decide +kernel) rfl, aw_t (i := 921) (by decide +kernel) rfl, aw_t (i := 1) (by decide +kernel) rfl, aw_t (i := 922) (by decide +kernel) rfl, by decide +kernel⟩
theorem zyX12_halt : zMth yX12_halt cX12_halt 2 (some .int) 0 := ⟨aw_t (i := 1603) (by decide +kernel) rfl, aw_t (i := 1604) (by decide +kernel) rfl, aw_t (i := 13) (by decide +kernel) rfl, aw_t (i := 1605) (by decide +kernel) rfl, by decide +kernel⟩
theorem zyX11_run : zMth yX11_run cX11_run 3 (some .int) 1 := ⟨aw_t (i := 929) (by decide +kernel) rfl, aw_t (i := 930) (by decide +kernel) rfl, aw_t (i := 1) (by decide +kernel) rfl, aw_t (i := 931) (by decide +kernel) rfl, by decide +kernel⟩
theorem zyX12_run : zMth yX12_run cX12_run 3 (some .int) 1 := ⟨aw_t (i := 1630) (by decide +kernel) rfl, aw_t (i := 1631) (by decide +kernel) rfl, aw_t (i := 13) (by decide +kernel) rfl, aw_t (i := 1632) (by decide +kernel) rfl, by decide +kernel⟩
theorem zyX11_queue : zMth yX11_queue cX11_queue 4 (some .int) 3 := ⟨aw_t (i := 977) (by decide +kernel) rfl, aw_t (i := 978) (by decide +kernel) rfl, aw_t (i := 1) (by decide +kernel) rfl, aw_t (i := 979) (by decide +kernel) rfl, by decide +kernel⟩
theorem zyX12_queue : zMth yX12_queue cX12_queue 5 (some .int) 3 := ⟨aw_t (i := 1607) (by decide +kernel) rfl, aw_t (i := 1608) (by decide +kernel) rfl, aw_t (i := 13) (by decide +kernel) rfl, aw_t (i := 1609) (by decide +kernel) rfl, by decide +kernel⟩
theorem zyX11_watch : zMth yX11_watch cX11_watch 4 (some .int) 2 := ⟨aw_t (i := 985) (by decide +kernel) rfl, aw_t (i := 986) (by decide +kernel) rfl, aw_t (i := 1) (by decide +kernel) rfl, aw_t (i := 987) (by decide +kernel) rfl, by decide +kernel⟩
theorem zyX12_watch : zMth yX12_watch cX12_watch 4 (some .int) 2 := ⟨aw_t (i := 1611) (by decide +kernel) rfl, aw_t (i := 1612) (by decide +kernel) rfl, aw_t (i := 13) (by decide +kernel) rfl, aw_t (i := 1613) (by decide +kernel) rfl, by decide +kernel⟩
theorem zyX11_load : zMth yX11_load cX11_load 4 (some .int) 2 := ⟨aw_t (i := 989) (by decide +kernel) rfl, aw_t (i := 990) (by decide +kernel) rfl, aw_t (i := 1) (by decide +kernel) rfl, aw_t (i := 991) (by decide +kernel) rfl, by decide +kernel⟩
theorem zyX12_load : zMth yX12_load cX12_load 4 (some .int) 2 := ⟨aw_t (i := 1620) (by decide +kernel) rfl, aw_t (i := 1621) (by decide +kernel) rfl, aw_t (i := 13) (by decide +kernel) rfl, aw_t (i := 1622) (by decide +kernel) rfl, by decide +kernel⟩
theorem zyX11_trueUp : zMth yX11_trueUp cX11_trueUp 5 (some .int) 0 := ⟨aw_t (i := 993) (by decide +kernel) rfl, aw_t (i := 994) (by decide +kernel) rfl, aw_t (i := 1) (by decide +kernel) rfl, aw_t (i := 995) (by decide +kernel) rfl, by decide +kernel⟩
theorem zyX12_trueUp : zMth yX12_trueUp cX12_trueUp 4 (some .int) 0 := ⟨aw_t (i := 1626) (by decide +kernel) rfl, aw_t (i := 1627) (by decide +kernel) rfl, aw_t (i := 13) (by decide +kernel) rfl, aw_t (i := 1628) (by decide +kernel) rfl, by decide +kernel⟩
theorem zyX11_undo : zMth yX11_undo cX11_undo 1 (some .int) 0 := ⟨aw_t (i := 1004) (by decide +kernel) rfl, aw_t (i := 1005) (by decide +kernel) rfl, aw_t (i := 1) (by decide +kernel) rfl, aw_t (i := 1006) (by decide +kernel) rfl, by decide +kernel⟩
theorem zyX12_undo : zMth yX12_undo cX12_undo 2 (some .int) 0 := ⟨aw_t (i := 1587) (by decide +kernel) rfl, aw_t (i := 1588) (by decide +kernel) rfl, aw_t (i := 13) (by decide +kernel) rfl, aw_t (i := 1589) (by decide +kernel) rfl, by decide +kernel⟩
theorem zyX11_axis : zMth yX11_axis cX11_axis 4 (some .int) 2 := ⟨aw_t (i := 1012) (by decide +kernel) rfl, aw_t (i := 1013) (by decide +kernel) rfl, aw_t (i := 1) (by decide +kernel) rfl, aw_t (i := 1014) (by decide +kernel) rfl, by decide +kernel⟩
theorem zyX12_axis : zMth yX12_axis cX12_axis 3 (some .int) 2 := ⟨aw_t (i := 1679) (by decide +kernel) rfl, aw_t (i := 1680) (by decide +kernel) rfl, aw_t (i := 13) (by decide +kernel) rfl, aw_t (i := 1681) (by decide +kernel) rfl, by decide +kernel⟩
theorem zyX11_now : zMth yX11_now cX11_now 4 (some .int) 2 := ⟨aw_t (i := 1016) (by decide +kernel) rfl, aw_t (i := 1017) (by decide +kernel) rfl, aw_t (i := 1) (by decide +kernel) rfl, aw_t (i := 1018) (by decide +kernel) rfl, by decide +kernel⟩
theorem zyX12_now : zMth yX12_now cX12_now 3 (some .int) 2 := ⟨aw_t (i := 1684) (by decide +kernel) rfl, aw_t (i := 1685) (by decide +kernel) rfl, aw_t (i := 13) (by decide +kernel) rfl, aw_t (i := 1686) (by decide +kernel) rfl, by decide +kernel⟩
theorem zyX11_bands : zMth yX11_bands cX11_bands 3 (some .int) 2 := ⟨aw_t (i := 1022) (by decide +kernel) rfl, aw_t (i := 1023) (by decide +kernel) rfl, aw_t (i := 1) (by decide +kernel) rfl, aw_t (i := 1024) (by decide +kernel) rfl, by decide +kernel⟩
theorem zyX12_bands : zMth yX12_bands cX12_bands 3 (some .int) 2 := ⟨aw_t (i := 1476) (by decide +kernel) rfl, aw_t (i := 1477) (by decide +kernel) rfl, aw_t (i := 13) (by decide +kernel) rfl, aw_t (i := 1478) (by decide +kernel) rfl, by decide +kernel⟩
theorem zyX11_stallIn : zMth yX11_stallIn cX11_stallIn 3 (some .int) 1 := ⟨aw_t (i := 1027) (by decide +kernel) rfl, aw_t (i := 1028) (by decide +kernel) rfl, aw_t (i := 1) (by decide +kernel) rfl, aw_t (i := 1029) (by decide +kernel) rfl, by decide +kernel⟩
theorem zyX12_stallIn : zMth yX12_stallIn cX12_stallIn 3 (some .int) 1 := ⟨aw_t (i := 1688) (by decide +kernel) rfl, aw_t (i := 1689) (by decide +kernel) rfl, aw_t (i := 13) (by decide +kernel) rfl, aw_t (i := 1690) (by decide +kernel) rfl, by decide +kernel⟩
theorem zyX11_calmIn : zMth yX11_calmIn cX11_calmIn 2 (some .int) 0 := ⟨aw_t (i := 1032) (by decide +kernel) rfl, aw_t (i := 1033) (by decide +kernel) rfl, aw_t (i := 1) (by decide +kernel) rfl, aw_t (i := 1034) (by decide +kernel) rfl, by decide +kernel⟩
theorem zyX12_calmIn : zMth yX12_calmIn cX12_calmIn 2 (some .int) 0 := ⟨aw_t (i := 1700) (by decide +kernel) rfl, aw_t (i := 1701) (by decide +kernel) rfl, aw_t (i := 13) (by decide +kernel) rfl, aw_t (i := 1702) (by decide +kernel) rfl, by decide +kernel⟩
theorem zyX11_carries : zMth yX11_carries cX11_carries 6 (some .int) 2 := ⟨aw_t (i := 1044) (by decide +kernel) rfl, aw_t (i := 1045) (by decide +kernel) rfl, aw_t (i := 1) (by decide +kernel) rfl, aw_t (i := 1046) (by decide +kernel) rfl, by decide +kernel⟩
theorem zyX12_carries : zMth yX12_carries cX12_carries 4 (some .int) 2 := ⟨aw_t (i := 1708) (by decide +kernel) rfl, aw_t (i := 1709) (by decide +kernel) rfl, aw_t (i := 13) (by decide +kernel) rfl, aw_t (i := 1710) (by decide +kernel) rfl, by decide +kernel⟩
theorem zyX11_strain : zMth yX11_strain cX11_strain 5 (some .int) 2 := ⟨aw_t (i := 1048) (by decide +kernel) rfl, aw_t (i := 1049) (by decide +kernel) rfl, aw_t (i := 1) (by decide +kernel) rfl, aw_t (i := 1050) (by decide +kernel) rfl, by decide +kernel⟩
theorem zyX12_strain : zMth yX12_strain cX12_strain 5 (some .int) 2 := ⟨aw_t (i := 1717) (by decide +kernel) rfl, aw_t (i := 1718) (by decide +kernel) rfl, aw_t (i := 13) (by decide +kernel) rfl, aw_t (i := 1719) (by decide +kernel) rfl, by decide +kernel⟩
theorem zyX11_swings : zMth yX11_swings cX11_swings 8 (some .int) 3 := ⟨aw_t (i := 1052) (by decide +kernel) rfl, aw_t (i := 1053) (by decide +kernel) rfl, aw_t (i := 1) (by decide +kernel) rfl, aw_t (i := 1054) (by decide +kernel) rfl, by decide +kernel⟩
theorem zyX12_swings : zMth yX12_swings cX12_swings 9 (some .int) 3 := ⟨aw_t (i := 1738) (by decide +kernel) rfl, aw_t (i := 1739) (by decide +kernel) rfl, aw_t (i := 13) (by decide +kernel) rfl, aw_t (i := 1740) (by decide +kernel) rfl, by decide +kernel⟩
theorem zyX11_settles : zMth yX11_settles cX11_settles 4 (some .int) 2 := ⟨aw_t (i := 1064) (by decide +kernel) rfl, aw_t (i := 1065) (by decide +kernel) rfl, aw_t (i := 1) (by decide +kernel) rfl, aw_t (i := 1066) (by decide +kernel) rfl, by decide +kernel⟩
theorem zyX12_settles : zMth yX12_settles cX12_settles 6 (some .int) 2 := ⟨aw_t (i := 1750) (by decide +kernel) rfl, aw_t (i := 1751) (by decide +kernel) rfl, aw_t (i := 13) (by decide +kernel) rfl, aw_t (i := 1752) (by decide +kernel) rfl, by decide +kernel⟩
theorem zyX11_shake : zMth yX11_shake cX11_shake 4 (some .int) 3 := ⟨aw_t (i := 1069) (by decide +kernel) rfl, aw_t (i := 1070) (by decide +kernel) rfl, aw_t (i := 1) (by decide +kernel) rfl, aw_t (i := 1071) (by decide +kernel) rfl, by decide +kernel⟩
theorem zyX12_shake : zMth yX12_shake cX12_shake 4 (some .int) 3 := ⟨aw_t (i := 1721) (by decide +kernel) rfl, aw_t (i := 1722) (by decide +kernel) rfl, aw_t (i := 13) (by decide +kernel) rfl, aw_t (i := 1723) (by decide +kernel) rfl, by decide +kernel⟩
theorem zyX11_worst : zMth yX11_worst cX11_worst 7 (some .int) 2 := ⟨aw_t (i := 1077) (by decide +kernel) rfl, aw_t (i := 1078) (by decide +kernel) rfl, aw_t (i := 1) (by decide +kernel) rfl, aw_t (i := 1079) (by decide +kernel) rfl, by decide +kernel⟩
theorem zyX12_worst : zMth yX12_worst cX12_worst 5 (some .int) 2 := ⟨aw_t (i := 1729) (by decide +kernel) rfl, aw_t (i := 1730) (by decide +kernel) rfl, aw_t (i := 13) (by decide +kernel) rfl, aw_t (i := 1731) (by decide +kernel) rfl, by decide +kernel⟩
theorem zyX11_unsafe : zMth yX11_unsafe cX11_unsafe 5 (some .int) 2 := ⟨aw_t (i := 1081) (by decide +kernel) rfl, aw_t (i := 1082) (by decide +kernel) rfl, aw_t (i := 1) (by decide +kernel) rfl, aw_t (i := 1083) (by decide +kernel) rfl, by decide +kernel⟩
theorem zyX12_unsafe : zMth yX12_unsafe cX12_unsafe 5 (some .int) 2 := ⟨aw_t (i := 1734) (by decide +kernel) rfl, aw_t (i := 1735) (by decide +kernel) rfl, aw_t (i := 13) (by decide +kernel) rfl, aw_t (i := 1736) (by decide +kernel) rfl, by decide +kernel⟩
theorem zyX11_coil : zMth yX11_coil cX11_coil 5 (some .int) 3 := ⟨aw_t (i := 1085) (by decide +kernel) rfl, aw_t (i := 1086) (by decide +kernel) rfl, aw_t (i := 1) (by decide +kernel) rfl, aw_t (i := 1087) (by decide +kernel) rfl, by decide +kernel⟩
theorem zyX12_coil : zMth yX12_coil cX12_coil 6 (some .int) 3 := ⟨aw_t (i := 1754) (by decide +kernel) rfl, aw_t (i := 1755) (by decide +kernel) rfl, aw_t (i := 13) (by decide +kernel) rfl, aw_t (i := 1756) (by decide +kernel) rfl, by decide +kernel⟩
theorem zyX11_follows : zMth yX11_follows cX11_follows 4 (some .int) 3 := ⟨aw_t (i := 1089) (by decide +kernel) rfl, aw_t (i := 1090) (by decide +kernel) rfl, aw_t (i := 1) (by decide +kernel) rfl, aw_t (i := 1091) (by decide +kernel) rfl, by decide +kernel⟩
theorem zyX12_follows : zMth yX12_follows cX12_follows 4 (some .int) 3 := ⟨aw_t (i := 1758) (by decide +kernel) rfl, aw_t (i := 1759) (by decide +kernel) rfl, aw_t (i := 13) (by decide +kernel) rfl, aw_t (i := 1760) (by decide +kernel) rfl, by decide +kernel⟩
theorem zyX11_ripple : zMth yX11_ripple cX11_ripple 6 (some .int) 2 := ⟨aw_t (i := 1097) (by decide +kernel) rfl, aw_t (i := 1098) (by decide +kernel) rfl, aw_t (i := 1) (by decide +kernel) rfl, aw_t (i := 1099) (by decide +kernel) rfl, by decide +kernel⟩
theorem zyX12_ripple : zMth yX12_ripple cX12_ripple 7 (some .int) 2 := ⟨aw_t (i := 1771) (by decide +kernel) rfl, aw_t (i := 1772) (by decide +kernel) rfl, aw_t (i := 13) (by decide +kernel) rfl, aw_t (i := 1773) (by decide +kernel) rfl, by decide +kernel⟩
theorem zyX11_mode : zMth yX11_mode cX11_mode 6 (some .int) 1 := ⟨aw_t (i := 1102) (by decide +kernel) rfl, aw_t (i := 1103) (by decide +kernel) rfl, aw_t (i := 1) (by decide +kernel) rfl, aw_t (i := 1104) (by decide +kernel) rfl, by decide +kernel⟩
theorem zyX12_mode : zMth yX12_mode cX12_mode 5 (some .int) 1 := ⟨aw_t (i := 1767) (by decide +kernel) rfl, aw_t (i := 1768) (by decide +kernel) rfl, aw_t (i := 13) (by decide +kernel) rfl, aw_t (i := 1769) (by decide +kernel) rfl, by decide +kernel⟩
theorem zyX11_about : zMth yX11_about cX11_about 2 (some .int) 1 := ⟨aw_t (i := 1106) (by decide +kernel) rfl, aw_t (i := 1107) (by decide +kernel) rfl, aw_t (i := 1) (by decide +kernel) rfl, aw_t (i := 1108) (by decide +kernel) rfl, by decide +kernel⟩
theorem zyX12_about : zMth yX12_about cX12_about 2 (some .int) 1 := ⟨aw_t (i := 1775) (by decide +kernel) rfl, aw_t (i := 1776) (by decide +kernel) rfl, aw_t (i := 13) (by decide +kernel) rfl, aw_t (i := 1777) (by decide +kernel) rfl, by decide +kernel⟩
