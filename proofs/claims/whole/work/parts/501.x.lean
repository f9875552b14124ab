/-! the methods, decompiled: written by dec.py -/
theorem nl_RL_8 : NL RL 8 11 6 := ⟨RX11, TX11, ci_11, bw_of 145 (by decide +kernel) rfl, bw_of 146 (by decide +kernel) rfl, bw_of 117 (by decide +kernel) rfl, by decide +kernel⟩
theorem yw_X11_init : YW yX11_init cX11_init 1 none 0 := ⟨bw_of 149 (by decide +kernel) rfl, bw_of 117 (by decide +kernel) rfl, ⟨by decide +kernel, by decide +kernel, by decide +kernel⟩, by decide +kernel⟩
theorem wml_RL_128 : Cond.methodLink RL 128 yX11_init ∈ BW := bw_of 147 (by decide +kernel) rfl
theorem wim_X11_init : Cond.instanceMethod yX11_init ∈ BW := bw_of 148 (by decide +kernel) rfl
theorem nl_RL_129 : NL RL 129 12 31 := ⟨RX12, TX12, ci_12, bw_of 1746 (by decide +kernel) rfl, bw_of 1747 (by decide +kernel) rfl, bw_of 129 (by decide +kernel) rfl, by decide +kernel⟩
theorem yw_X12_init : YW yX12_init cX12_init 3 none 0 := ⟨bw_of 1750 (by decide +kernel) rfl, bw_of 129 (by decide +kernel) rfl, ⟨by decide +kernel, by decide +kernel, by decide +kernel⟩, by decide +kernel⟩
theorem wml_RL_131 : Cond.methodLink RL 131 yX12_init ∈ BW := bw_of 1748 (by decide +kernel) rfl
theorem wim_X12_init : Cond.instanceMethod yX12_init ∈ BW := bw_of 1749 (by decide +kernel) rfl
theorem yw_X11_feed : YW yX11_feed cX11_feed 6 (some .int) 5 := ⟨bw_of 638 (by decide +kernel) rfl, bw_of 117 (by decide +kernel) rfl, ⟨by decide +kernel, by decide +kernel, by decide +kernel⟩, by decide +kernel⟩
theorem wml_RL_132 : Cond.methodLink RL 132 yX11_feed ∈ BW := bw_of 635 (by decide +kernel) rfl
theorem wim_X11_feed : Cond.instanceMethod yX11_feed ∈ BW := bw_of 636 (by decide +kernel) rfl
theorem wse_X11_feed : Cond.selects RX11 yX11_feed yX11_feed ∈ BW := bw_of 637 (by decide +kernel) rfl
theorem yw_X12_feed : YW yX12_feed cX12_feed 7 (some .int) 5 := ⟨bw_of 1934 (by decide +kernel) rfl, bw_of 129 (by decide +kernel) rfl, ⟨by decide +kernel, by decide +kernel, by decide +kernel⟩, by decide +kernel⟩
theorem wml_RL_135 : Cond.methodLink RL 135 yX12_feed ∈ BW := bw_of 1931 (by decide +kernel) rfl
theorem wim_X12_feed : Cond.instanceMethod yX12_feed ∈ BW := bw_of 1932 (by decide +kernel) rfl
theorem wse_X12_feed : Cond.selects RX12 yX12_feed yX12_feed ∈ BW := bw_of 1933 (by decide +kernel) rfl
theorem yw_X11_end : YW yX11_end cX11_end 2 (some .boolean) 1 := ⟨bw_of 646 (by decide +kernel) rfl, bw_of 117 (by decide +kernel) rfl, ⟨by decide +kernel, by decide +kernel, by decide +kernel⟩, by decide +kernel⟩
theorem wml_RL_136 : Cond.methodLink RL 136 yX11_end ∈ BW := bw_of 643 (by decide +kernel) rfl
theorem wim_X11_end : Cond.instanceMethod yX11_end ∈ BW := bw_of 644 (by decide +kernel) rfl
theorem wse_X11_end : Cond.selects RX11 yX11_end yX11_end ∈ BW := bw_of 645 (by decide +kernel) rfl
theorem yw_X12_end : YW yX12_end cX12_end 2 (some .boolean) 1 := ⟨bw_of 1938 (by decide +kernel) rfl, bw_of 129 (by decide +kernel) rfl, ⟨by decide +kernel, by decide +kernel, by decide +kernel⟩, by decide +kernel⟩
theorem wml_RL_139 : Cond.methodLink RL 139 yX12_end ∈ BW := bw_of 1935 (by decide +kernel) rfl
theorem wim_X12_end : Cond.instanceMethod yX12_end ∈ BW := bw_of 1936 (by decide +kernel) rfl
theorem wse_X12_end : Cond.selects RX12 yX12_end yX12_end ∈ BW := bw_of 1937 (by decide +kernel) rfl
theorem yw_L_day : YWW yL_day cL_day 4 (some .int) [(0, 6, 9, 13)] 3 := ⟨bw_of 876 (by decide +kernel) rfl, bw_of 116 (by decide +kernel) rfl, ⟨by decide +kernel, by decide +kernel, by decide +kernel⟩, by decide +kernel⟩
theorem wml_RL_140 : Cond.methodLink RL 140 yL_day ∈ BW := bw_of 874 (by decide +kernel) rfl
theorem wst_L_day : Cond.static yL_day ∈ BW := bw_of 875 (by decide +kernel) rfl
theorem yw_X12_day : YW yX12_day cX12_day 3 none 2 := ⟨bw_of 1859 (by decide +kernel) rfl, bw_of 129 (by decide +kernel) rfl, ⟨by decide +kernel, by decide +kernel, by decide +kernel⟩, by decide +kernel⟩
theorem wml_RL_145 : Cond.methodLink RL 145 yX12_day ∈ BW := bw_of 1856 (by decide +kernel) rfl
theorem wim_X12_day : Cond.instanceMethod yX12_day ∈ BW := bw_of 1857 (by decide +kernel) rfl
theorem wse_X12_day : Cond.selects RX12 yX12_day yX12_day ∈ BW := bw_of 1858 (by decide +kernel) rfl
theorem yw_X12_thrown : YW yX12_thrown cX12_thrown 1 (some .int) 0 := ⟨bw_of 1745 (by decide +kernel) rfl, bw_of 129 (by decide +kernel) rfl, ⟨by decide +kernel, by decide +kernel, by decide +kernel⟩, by decide +kernel⟩
theorem wml_RL_146 : Cond.methodLink RL 146 yX12_thrown ∈ BW := bw_of 1742 (by decide +kernel) rfl
theorem wim_X12_thrown : Cond.instanceMethod yX12_thrown ∈ BW := bw_of 1743 (by decide +kernel) rfl
theorem wse_X12_thrown : Cond.selects RX12 yX12_thrown yX12_thrown ∈ BW := bw_of 1744 (by decide +kernel) rfl
theorem yw_L_old : YWW yL_old cL_old 4 (some .int) [(0, 6, 9, 18), (0, 6, 12, 13)] 3 := ⟨bw_of 957 (by decide +kernel) rfl, bw_of 116 (by decide +kernel) rfl, ⟨by decide +kernel, by decide +kernel, by decide +kernel⟩, by decide +kernel⟩
theorem wml_RL_150 : Cond.methodLink RL 150 yL_old ∈ BW := bw_of 955 (by decide +kernel) rfl
theorem wst_L_old : Cond.static yL_old ∈ BW := bw_of 956 (by decide +kernel) rfl
theorem yw_X12_old : YW yX12_old cX12_old 3 none 2 := ⟨bw_of 1870 (by decide +kernel) rfl, bw_of 129 (by decide +kernel) rfl, ⟨by decide +kernel, by decide +kernel, by decide +kernel⟩, by decide +kernel⟩
theorem wml_RL_152 : Cond.methodLink RL 152 yX12_old ∈ BW := bw_of 1867 (by decide +kernel) rfl
theorem wim_X12_old : Cond.instanceMethod yX12_old ∈ BW := bw_of 1868 (by decide +kernel) rfl
theorem wse_X12_old : Cond.selects RX12 yX12_old yX12_old ∈ BW := bw_of 1869 (by decide +kernel) rfl
theorem yw_L_ring : YWW yL_ring cL_ring 6 (some .int) [(0, 12, 15, 18), (0, 12, 19, 13)] 5 := ⟨bw_of 990 (by decide +kernel) rfl, bw_of 116 (by decide +kernel) rfl, ⟨by decide +kernel, by decide +kernel, by decide +kernel⟩, by decide +kernel⟩
theorem wml_RL_153 : Cond.methodLink RL 153 yL_ring ∈ BW := bw_of 988 (by decide +kernel) rfl
theorem wst_L_ring : Cond.static yL_ring ∈ BW := bw_of 989 (by decide +kernel) rfl
theorem yw_X12_ring : YW yX12_ring cX12_ring 4 (some .int) 3 := ⟨bw_of 1879 (by decide +kernel) rfl, bw_of 129 (by decide +kernel) rfl, ⟨by decide +kernel, by decide +kernel, by decide +kernel⟩, by decide +kernel⟩
theorem wml_RL_156 : Cond.methodLink RL 156 yX12_ring ∈ BW := bw_of 1876 (by decide +kernel) rfl
theorem wim_X12_ring : Cond.instanceMethod yX12_ring ∈ BW := bw_of 1877 (by decide +kernel) rfl
theorem wse_X12_ring : Cond.selects RX12 yX12_ring yX12_ring ∈ BW := bw_of 1878 (by decide +kernel) rfl
theorem yw_L_tell : YWW yL_tell cL_tell 5 (some .int) [(0, 10, 13, 18), (0, 10, 17, 13)] 4 := ⟨bw_of 1019 (by decide +kernel) rfl, bw_of 116 (by decide +kernel) rfl, ⟨by decide +kernel, by decide +kernel, by decide +kernel⟩, by decide +kernel⟩
theorem wml_RL_157 : Cond.methodLink RL 157 yL_tell ∈ BW := bw_of 1017 (by decide +kernel) rfl
theorem wst_L_tell : Cond.static yL_tell ∈ BW := bw_of 1018 (by decide +kernel) rfl
theorem yw_X12_tell : YW yX12_tell cX12_tell 3 (some .int) 2 := ⟨bw_of 1910 (by decide +kernel) rfl, bw_of 129 (by decide +kernel) rfl, ⟨by decide +kernel, by decide +kernel, by decide +kernel⟩, by decide +kernel⟩
theorem wml_RL_160 : Cond.methodLink RL 160 yX12_tell ∈ BW := bw_of 1907 (by decide +kernel) rfl
theorem wim_X12_tell : Cond.instanceMethod yX12_tell ∈ BW := bw_of 1908 (by decide +kernel) rfl
theorem wse_X12_tell : Cond.selects RX12 yX12_tell yX12_tell ∈ BW := bw_of 1909 (by decide +kernel) rfl
theorem yw_L_word : YWW yL_word cL_word 4 (some .int) [(0, 9, 12, 18)] 3 := ⟨bw_of 1026 (by decide +kernel) rfl, bw_of 116 (by decide +kernel) rfl, ⟨by decide +kernel, by decide +kernel, by decide +kernel⟩, by decide +kernel⟩
theorem wml_RL_161 : Cond.methodLink RL 161 yL_word ∈ BW := bw_of 1024 (by decide +kernel) rfl
theorem wst_L_word : Cond.static yL_word ∈ BW := bw_of 1025 (by decide +kernel) rfl
theorem yw_X12_word : YW yX12_word cX12_word 2 (some .int) 1 := ⟨bw_of 1914 (by decide +kernel) rfl, bw_of 129 (by decide +kernel) rfl, ⟨by decide +kernel, by decide +kernel, by decide +kernel⟩, by decide +kernel⟩
theorem wml_RL_164 : Cond.methodLink RL 164 yX12_word ∈ BW := bw_of 1911 (by decide +kernel) rfl
theorem wim_X12_word : Cond.instanceMethod yX12_word ∈ BW := bw_of 1912 (by decide +kernel) rfl
theorem wse_X12_word : Cond.selects RX12 yX12_word yX12_word ∈ BW := bw_of 1913 (by decide +kernel) rfl
theorem yw_L_as : YWW yL_as cL_as 5 (some .int) [(0, 10, 13, 18)] 4 := ⟨bw_of 1034 (by decide +kernel) rfl, bw_of 116 (by decide +kernel) rfl, ⟨by decide +kernel, by decide +kernel, by decide +kernel⟩, by decide +kernel⟩
theorem wml_RL_165 : Cond.methodLink RL 165 yL_as ∈ BW := bw_of 1032 (by decide +kernel) rfl
theorem wst_L_as : Cond.static yL_as ∈ BW := bw_of 1033 (by decide +kernel) rfl
theorem yw_X12_as : YW yX12_as cX12_as 4 (some .int) 2 := ⟨bw_of 1918 (by decide +kernel) rfl, bw_of 129 (by decide +kernel) rfl, ⟨by decide +kernel, by decide +kernel, by decide +kernel⟩, by decide +kernel⟩
theorem wml_RL_167 : Cond.methodLink RL 167 yX12_as ∈ BW := bw_of 1915 (by decide +kernel) rfl
theorem wim_X12_as : Cond.instanceMethod yX12_as ∈ BW := bw_of 1916 (by decide +kernel) rfl
theorem wse_X12_as : Cond.selects RX12 yX12_as yX12_as ∈ BW := bw_of 1917 (by decide +kernel) rfl
theorem yw_L_led : YWW yL_led cL_led 5 (some .int) [(0, 10, 13, 18)] 4 := ⟨bw_of 1049 (by decide +kernel) rfl, bw_of 116 (by decide +kernel) rfl, ⟨by decide +kernel, by decide +kernel, by decide +kernel⟩, by decide +kernel⟩
theorem wml_RL_168 : Cond.methodLink RL 168 yL_led ∈ BW := bw_of 1047 (by decide +kernel) rfl
theorem wst_L_led : Cond.static yL_led ∈ BW := bw_of 1048 (by decide +kernel) rfl
theorem yw_X12_led : YW yX12_led cX12_led 4 (some .int) 2 := ⟨bw_of 1930 (by decide +kernel) rfl, bw_of 129 (by decide +kernel) rfl, ⟨by decide +kernel, by decide +kernel, by decide +kernel⟩, by decide +kernel⟩
theorem wml_RL_170 : Cond.methodLink RL 170 yX12_led ∈ BW := bw_of 1927 (by decide +kernel) rfl
theorem wim_X12_led : Cond.instanceMethod yX12_led ∈ BW := bw_of 1928 (by decide +kernel) rfl
theorem wse_X12_led : Cond.selects RX12 yX12_led yX12_led ∈ BW := bw_of 1929 (by decide +kernel) rfl
theorem yw_L_job : YWW yL_job cL_job 8 (some .int) [(0, 16, 19, 13), (0, 16, 23, 42)] 7 := ⟨bw_of 1060 (by decide +kernel) rfl, bw_of 116 (by decide +kernel) rfl, ⟨by decide +kernel, by decide +kernel, by decide +kernel⟩, by decide +kernel⟩
theorem wml_RL_171 : Cond.methodLink RL 171 yL_job ∈ BW := bw_of 1058 (by decide +kernel) rfl
theorem wst_L_job : Cond.static yL_job ∈ BW := bw_of 1059 (by decide +kernel) rfl
theorem yw_X12_job : YW yX12_job cX12_job 9 (some .int) 5 := ⟨bw_of 1946 (by decide +kernel) rfl, bw_of 129 (by decide +kernel) rfl, ⟨by decide +kernel, by decide +kernel, by decide +kernel⟩, by decide +kernel⟩
theorem wml_RL_174 : Cond.methodLink RL 174 yX12_job ∈ BW := bw_of 1943 (by decide +kernel) rfl
theorem wim_X12_job : Cond.instanceMethod yX12_job ∈ BW := bw_of 1944 (by decide +kernel) rfl
theorem wse_X12_job : Cond.selects RX12 yX12_job yX12_job ∈ BW := bw_of 1945 (by decide +kernel) rfl
theorem yw_X11_fault : YW yX11_fault cX11_fault 1 (some .int) 0 := ⟨bw_of 650 (by decide +kernel) rfl, bw_of 117 (by decide +kernel) rfl, ⟨by decide +kernel, by decide +kernel, by decide +kernel⟩, by decide +kernel⟩
theorem wml_RL_175 : Cond.methodLink RL 175 yX11_fault ∈ BW := bw_of 647 (by decide +kernel) rfl
theorem wim_X11_fault : Cond.instanceMethod yX11_fault ∈ BW := bw_of 648 (by decide +kernel) rfl
theorem wse_X11_fault : Cond.selects RX11 yX11_fault yX11_fault ∈ BW := bw_of 649 (by decide +kernel) rfl
theorem yw_X12_fault : YW yX12_fault cX12_fault 1 (some .int) 0 := ⟨bw_of 1942 (by decide +kernel) rfl, bw_of 129 (by decide +kernel) rfl, ⟨by decide +kernel, by decide +kernel, by decide +kernel⟩, by decide +kernel⟩
theorem wml_RL_178 : Cond.methodLink RL 178 yX12_fault ∈ BW := bw_of 1939 (by decide +kernel) rfl
theorem wim_X12_fault : Cond.instanceMethod yX12_fault ∈ BW := bw_of 1940 (by decide +kernel) rfl
theorem wse_X12_fault : Cond.selects RX12 yX12_fault yX12_fault ∈ BW := bw_of 1941 (by decide +kernel) rfl
theorem yw_L_shorter : YWW yL_shorter cL_shorter 6 (some .int) [(0, 9, 12, 18), (0, 9, 16, 13)] 5 := ⟨bw_of 1309 (by decide +kernel) rfl, bw_of 116 (by decide +kernel) rfl, ⟨by decide +kernel, by decide +kernel, by decide +kernel⟩, by decide +kernel⟩
theorem wml_RL_179 : Cond.methodLink RL 179 yL_shorter ∈ BW := bw_of 1307 (by decide +kernel) rfl
theorem wst_L_shorter : Cond.static yL_shorter ∈ BW := bw_of 1308 (by decide +kernel) rfl
theorem yw_X12_shorter : YW yX12_shorter cX12_shorter 5 none 4 := ⟨bw_of 2057 (by decide +kernel) rfl, bw_of 129 (by decide +kernel) rfl, ⟨by decide +kernel, by decide +kernel, by decide +kernel⟩, by decide +kernel⟩
theorem wml_RL_182 : Cond.methodLink RL 182 yX12_shorter ∈ BW := bw_of 2054 (by decide +kernel) rfl
theorem wim_X12_shorter : Cond.instanceMethod yX12_shorter ∈ BW := bw_of 2055 (by decide +kernel) rfl
theorem wse_X12_shorter : Cond.selects RX12 yX12_shorter yX12_shorter ∈ BW := bw_of 2056 (by decide +kernel) rfl
theorem yw_L_words : YWW yL_words cL_words 5 (some .int) [(0, 9, 12, 18)] 4 := ⟨bw_of 1316 (by decide +kernel) rfl, bw_of 116 (by decide +kernel) rfl, ⟨by decide +kernel, by decide +kernel, by decide +kernel⟩, by decide +kernel⟩
theorem wml_RL_183 : Cond.methodLink RL 183 yL_words ∈ BW := bw_of 1314 (by decide +kernel) rfl
theorem wst_L_words : Cond.static yL_words ∈ BW := bw_of 1315 (by decide +kernel) rfl
theorem yw_X12_words : YW yX12_words cX12_words 3 (some .long) 2 := ⟨bw_of 2065 (by decide +kernel) rfl, bw_of 129 (by decide +kernel) rfl, ⟨by decide +kernel, by decide +kernel, by decide +kernel⟩, by decide +kernel⟩
theorem wml_RL_186 : Cond.methodLink RL 186 yX12_words ∈ BW := bw_of 2062 (by decide +kernel) rfl
theorem wim_X12_words : Cond.instanceMethod yX12_words ∈ BW := bw_of 2063 (by decide +kernel) rfl
theorem wse_X12_words : Cond.selects RX12 yX12_words yX12_words ∈ BW := bw_of 2064 (by decide +kernel) rfl
theorem yw_L_leans : YWW yL_leans cL_leans 4 (some .int) [(0, 9, 12, 18)] 3 := ⟨bw_of 1325 (by decide +kernel) rfl, bw_of 116 (by decide +kernel) rfl, ⟨by decide +kernel, by decide +kernel, by decide +kernel⟩, by decide +kernel⟩
theorem wml_RL_187 : Cond.methodLink RL 187 yL_leans ∈ BW := bw_of 1323 (by decide +kernel) rfl
theorem wst_L_leans : Cond.static yL_leans ∈ BW := bw_of 1324 (by decide +kernel) rfl
theorem yw_X12_leans : YW yX12_leans cX12_leans 2 (some .int) 1 := ⟨bw_of 2078 (by decide +kernel) rfl, bw_of 129 (by decide +kernel) rfl, ⟨by decide +kernel, by decide +kernel, by decide +kernel⟩, by decide +kernel⟩
theorem wml_RL_189 : Cond.methodLink RL 189 yX12_leans ∈ BW := bw_of 2075 (by decide +kernel) rfl
theorem wim_X12_leans : Cond.instanceMethod yX12_leans ∈ BW := bw_of 2076 (by decide +kernel) rfl
theorem wse_X12_leans : Cond.selects RX12 yX12_leans yX12_leans ∈ BW := bw_of 2077 (by decide +kernel) rfl
theorem yw_X11_quarrel : YW yX11_quarrel cX11_quarrel 2 (some .int) 1 := ⟨bw_of 654 (by decide +kernel) rfl, bw_of 117 (by decide +kernel) rfl, ⟨by decide +kernel, by decide +kernel, by decide +kernel⟩, by decide +kernel⟩
theorem wml_RL_190 : Cond.methodLink RL 190 yX11_quarrel ∈ BW := bw_of 651 (by decide +kernel) rfl
theorem wim_X11_quarrel : Cond.instanceMethod yX11_quarrel ∈ BW := bw_of 652 (by decide +kernel) rfl
theorem wse_X11_quarrel : Cond.selects RX11 yX11_quarrel yX11_quarrel ∈ BW := bw_of 653 (by decide +kernel) rfl
theorem yw_X12_quarrel : YW yX12_quarrel cX12_quarrel 5 (some .int) 1 := ⟨bw_of 2086 (by decide +kernel) rfl, bw_of 129 (by decide +kernel) rfl, ⟨by decide +kernel, by decide +kernel, by decide +kernel⟩, by decide +kernel⟩
theorem wml_RL_193 : Cond.methodLink RL 193 yX12_quarrel ∈ BW := bw_of 2083 (by decide +kernel) rfl
theorem wim_X12_quarrel : Cond.instanceMethod yX12_quarrel ∈ BW := bw_of 2084 (by decide +kernel) rfl
theorem wse_X12_quarrel : Cond.selects RX12 yX12_quarrel yX12_quarrel ∈ BW := bw_of 2085 (by decide +kernel) rfl
theorem yw_X11_order : YW yX11_order cX11_order 2 (some .int) 1 := ⟨bw_of 670 (by decide +kernel) rfl, bw_of 117 (by decide +kernel) rfl, ⟨by decide +kernel, by decide +kernel, by decide +kernel⟩, by decide +kernel⟩
theorem wml_RL_194 : Cond.methodLink RL 194 yX11_order ∈ BW := bw_of 667 (by decide +kernel) rfl
theorem wim_X11_order : Cond.instanceMethod yX11_order ∈ BW := bw_of 668 (by decide +kernel) rfl
theorem wse_X11_order : Cond.selects RX11 yX11_order yX11_order ∈ BW := bw_of 669 (by decide +kernel) rfl
theorem yw_X12_order : YW yX12_order cX12_order 2 (some .int) 1 := ⟨bw_of 2090 (by decide +kernel) rfl, bw_of 129 (by decide +kernel) rfl, ⟨by decide +kernel, by decide +kernel, by decide +kernel⟩, by decide +kernel⟩
theorem wml_RL_197 : Cond.methodLink RL 197 yX12_order ∈ BW := bw_of 2087 (by decide +kernel) rfl
theorem wim_X12_order : Cond.instanceMethod yX12_order ∈ BW := bw_of 2088 (by decide +kernel) rfl
theorem wse_X12_order : Cond.selects RX12 yX12_order yX12_order ∈ BW := bw_of 2089 (by decide +kernel) rfl
theorem yw_L_way : YWW yL_way cL_way 5 (some .int) [(0, 17, 20, 18), (0, 17, 24, 13)] 4 := ⟨bw_of 1333 (by decide +kernel) rfl, bw_of 116 (by decide +kernel) rfl, ⟨by decide +kernel, by decide +kernel, by decide +kernel⟩, by decide +kernel⟩
theorem wml_RL_198 : Cond.methodLink RL 198 yL_way ∈ BW := bw_of 1331 (by decide +kernel) rfl
theorem wst_L_way : Cond.static yL_way ∈ BW := bw_of 1332 (by decide +kernel) rfl
theorem yw_X12_way : YW yX12_way cX12_way 3 (some .boolean) 2 := ⟨bw_of 2098 (by decide +kernel) rfl, bw_of 129 (by decide +kernel) rfl, ⟨by decide +kernel, by decide +kernel, by decide +kernel⟩, by decide +kernel⟩
theorem wml_RL_200 : Cond.methodLink RL 200 yX12_way ∈ BW := bw_of 2095 (by decide +kernel) rfl
theorem wim_X12_way : Cond.instanceMethod yX12_way ∈ BW := bw_of 2096 (by decide +kernel) rfl
theorem wse_X12_way : Cond.selects RX12 yX12_way yX12_way ∈ BW := bw_of 2097 (by decide +kernel) rfl
theorem yw_L_drop : YWW yL_drop cL_drop 4 (some .int) [(0, 16, 19, 18)] 3 := ⟨bw_of 1344 (by decide +kernel) rfl, bw_of 116 (by decide +kernel) rfl, ⟨by decide +kernel, by decide +kernel, by decide +kernel⟩, by decide +kernel⟩
theorem wml_RL_201 : Cond.methodLink RL 201 yL_drop ∈ BW := bw_of 1342 (by decide +kernel) rfl
theorem wst_L_drop : Cond.static yL_drop ∈ BW := bw_of 1343 (by decide +kernel) rfl
theorem yw_X12_drop : YW yX12_drop cX12_drop 2 (some .boolean) 1 := ⟨bw_of 2102 (by decide +kernel) rfl, bw_of 129 (by decide +kernel) rfl, ⟨by decide +kernel, by decide +kernel, by decide +kernel⟩, by decide +kernel⟩
theorem wml_RL_203 : Cond.methodLink RL 203 yX12_drop ∈ BW := bw_of 2099 (by decide +kernel) rfl
theorem wim_X12_drop : Cond.instanceMethod yX12_drop ∈ BW := bw_of 2100 (by decide +kernel) rfl
theorem wse_X12_drop : Cond.selects RX12 yX12_drop yX12_drop ∈ BW := bw_of 2101 (by decide +kernel) rfl
theorem yw_L_again : YWW yL_again cL_again 4 (some .int) [(0, 16, 19, 18)] 3 := ⟨bw_of 1351 (by decide +kernel) rfl, bw_of 116 (by decide +kernel) rfl, ⟨by decide +kernel, by decide +kernel, by decide +kernel⟩, by decide +kernel⟩
theorem wml_RL_204 : Cond.methodLink RL 204 yL_again ∈ BW := bw_of 1349 (by decide +kernel) rfl
theorem wst_L_again : Cond.static yL_again ∈ BW := bw_of 1350 (by decide +kernel) rfl
theorem yw_X12_again : YW yX12_again cX12_again 2 (some .boolean) 1 := ⟨bw_of 2106 (by decide +kernel) rfl, bw_of 129 (by decide +kernel) rfl, ⟨by decide +kernel, by decide +kernel, by decide +kernel⟩, by decide +kernel⟩
theorem wml_RL_206 : Cond.methodLink RL 206 yX12_again ∈ BW := bw_of 2103 (by decide +kernel) rfl
theorem wim_X12_again : Cond.instanceMethod yX12_again ∈ BW := bw_of 2104 (by decide +kernel) rfl
theorem wse_X12_again : Cond.selects RX12 yX12_again yX12_again ∈ BW := bw_of 2105 (by decide +kernel) rfl
theorem yw_L_out : YWW yL_out cL_out 4 (some .int) [(0, 9, 12, 13), (0, 9, 15, 69)] 3 := ⟨bw_of 1358 (by decide +kernel) rfl, bw_of 116 (by decide +kernel) rfl, ⟨by decide +kernel, by decide +kernel, by decide +kernel⟩, by decide +kernel⟩
theorem wml_RL_207 : Cond.methodLink RL 207 yL_out ∈ BW := bw_of 1356 (by decide +kernel) rfl
theorem wst_L_out : Cond.static yL_out ∈ BW := bw_of 1357 (by decide +kernel) rfl
theorem yw_X12_out : YW yX12_out cX12_out 4 (some .int) 1 := ⟨bw_of 2110 (by decide +kernel) rfl, bw_of 129 (by decide +kernel) rfl, ⟨by decide +kernel, by decide +kernel, by decide +kernel⟩, by decide +kernel⟩
theorem wml_RL_209 : Cond.methodLink RL 209 yX12_out ∈ BW := bw_of 2107 (by decide +kernel) rfl
theorem wim_X12_out : Cond.instanceMethod yX12_out ∈ BW := bw_of 2108 (by decide +kernel) rfl
theorem wse_X12_out : Cond.selects RX12 yX12_out yX12_out ∈ BW := bw_of 2109 (by decide +kernel) rfl
theorem yw_L_minutes : YWW yL_minutes cL_minutes 4 (some .int) [(0, 9, 12, 13)] 3 := ⟨bw_of 1391 (by decide +kernel) rfl, bw_of 116 (by decide +kernel) rfl, ⟨by decide +kernel, by decide +kernel, by decide +kernel⟩, by decide +kernel⟩
theorem wml_RL_210 : Cond.methodLink RL 210 yL_minutes ∈ BW := bw_of 1389 (by decide +kernel) rfl
theorem wst_L_minutes : Cond.static yL_minutes ∈ BW := bw_of 1390 (by decide +kernel) rfl
theorem yw_X12_minutes : YW yX12_minutes cX12_minutes 3 (some .int) 1 := ⟨bw_of 2114 (by decide +kernel) rfl, bw_of 129 (by decide +kernel) rfl, ⟨by decide +kernel, by decide +kernel, by decide +kernel⟩, by decide +kernel⟩
theorem wml_RL_212 : Cond.methodLink RL 212 yX12_minutes ∈ BW := bw_of 2111 (by decide +kernel) rfl
theorem wim_X12_minutes : Cond.instanceMethod yX12_minutes ∈ BW := bw_of 2112 (by decide +kernel) rfl
theorem wse_X12_minutes : Cond.selects RX12 yX12_minutes yX12_minutes ∈ BW := bw_of 2113 (by decide +kernel) rfl
theorem yw_L_look : YWW yL_look cL_look 5 (some .int) [(0, 10, 13, 18), (0, 10, 17, 77)] 4 := ⟨bw_of 1495 (by decide +kernel) rfl, bw_of 116 (by decide +kernel) rfl, ⟨by decide +kernel, by decide +kernel, by decide +kernel⟩, by decide +kernel⟩
theorem wml_RL_213 : Cond.methodLink RL 213 yL_look ∈ BW := bw_of 1493 (by decide +kernel) rfl
theorem wst_L_look : Cond.static yL_look ∈ BW := bw_of 1494 (by decide +kernel) rfl
theorem yw_X12_look : YW yX12_look cX12_look 3 (some .int) 2 := ⟨bw_of 2167 (by decide +kernel) rfl, bw_of 129 (by decide +kernel) rfl, ⟨by decide +kernel, by decide +kernel, by decide +kernel⟩, by decide +kernel⟩
theorem wml_RL_215 : Cond.methodLink RL 215 yX12_look ∈ BW := bw_of 2164 (by decide +kernel) rfl
theorem wim_X12_look : Cond.instanceMethod yX12_look ∈ BW := bw_of 2165 (by decide +kernel) rfl
theorem wse_X12_look : Cond.selects RX12 yX12_look yX12_look ∈ BW := bw_of 2166 (by decide +kernel) rfl
theorem yw_L_lamp : YWW yL_lamp cL_lamp 6 (some .int) [(0, 19, 22, 18), (0, 19, 26, 13)] 5 := ⟨bw_of 1530 (by decide +kernel) rfl, bw_of 116 (by decide +kernel) rfl, ⟨by decide +kernel, by decide +kernel, by decide +kernel⟩, by decide +kernel⟩
theorem wml_RL_216 : Cond.methodLink RL 216 yL_lamp ∈ BW := bw_of 1528 (by decide +kernel) rfl
theorem wst_L_lamp : Cond.static yL_lamp ∈ BW := bw_of 1529 (by decide +kernel) rfl
theorem yw_X12_lamp : YW yX12_lamp cX12_lamp 4 (some .boolean) 3 := ⟨bw_of 2175 (by decide +kernel) rfl, bw_of 129 (by decide +kernel) rfl, ⟨by decide +kernel, by decide +kernel, by decide +kernel⟩, by decide +kernel⟩
theorem wml_RL_218 : Cond.methodLink RL 218 yX12_lamp ∈ BW := bw_of 2172 (by decide +kernel) rfl
theorem wim_X12_lamp : Cond.instanceMethod yX12_lamp ∈ BW := bw_of 2173 (by decide +kernel) rfl
theorem wse_X12_lamp : Cond.selects RX12 yX12_lamp yX12_lamp ∈ BW := bw_of 2174 (by decide +kernel) rfl
theorem yw_L_test : YWW yL_test cL_test 5 (some .int) [(0, 10, 13, 18), (0, 10, 17, 13)] 4 := ⟨bw_of 1542 (by decide +kernel) rfl, bw_of 116 (by decide +kernel) rfl, ⟨by decide +kernel, by decide +kernel, by decide +kernel⟩, by decide +kernel⟩
theorem wml_RL_219 : Cond.methodLink RL 219 yL_test ∈ BW := bw_of 1540 (by decide +kernel) rfl
theorem wst_L_test : Cond.static yL_test ∈ BW := bw_of 1541 (by decide +kernel) rfl
theorem yw_X12_test : YW yX12_test cX12_test 7 (some .int) 2 := ⟨bw_of 2182 (by decide +kernel) rfl, bw_of 129 (by decide +kernel) rfl, ⟨by decide +kernel, by decide +kernel, by decide +kernel⟩, by decide +kernel⟩
theorem wml_RL_221 : Cond.methodLink RL 221 yX12_test ∈ BW := bw_of 2179 (by decide +kernel) rfl
theorem wim_X12_test : Cond.instanceMethod yX12_test ∈ BW := bw_of 2180 (by decide +kernel) rfl
theorem wse_X12_test : Cond.selects RX12 yX12_test yX12_test ∈ BW := bw_of 2181 (by decide +kernel) rfl
theorem yw_X11_doubted : YW yX11_doubted cX11_doubted 1 (some .long) 0 := ⟨bw_of 678 (by decide +kernel) rfl, bw_of 117 (by decide +kernel) rfl, ⟨by decide +kernel, by decide +kernel, by decide +kernel⟩, by decide +kernel⟩
theorem wml_RL_222 : Cond.methodLink RL 222 yX11_doubted ∈ BW := bw_of 675 (by decide +kernel) rfl
theorem wim_X11_doubted : Cond.instanceMethod yX11_doubted ∈ BW := bw_of 676 (by decide +kernel) rfl
theorem wse_X11_doubted : Cond.selects RX11 yX11_doubted yX11_doubted ∈ BW := bw_of 677 (by decide +kernel) rfl
theorem yw_X12_doubted : YW yX12_doubted cX12_doubted 1 (some .long) 0 := ⟨bw_of 2186 (by decide +kernel) rfl, bw_of 129 (by decide +kernel) rfl, ⟨by decide +kernel, by decide +kernel, by decide +kernel⟩, by decide +kernel⟩
theorem wml_RL_226 : Cond.methodLink RL 226 yX12_doubted ∈ BW := bw_of 2183 (by decide +kernel) rfl
theorem wim_X12_doubted : Cond.instanceMethod yX12_doubted ∈ BW := bw_of 2184 (by decide +kernel) rfl
theorem wse_X12_doubted : Cond.selects RX12 yX12_doubted yX12_doubted ∈ BW := bw_of 2185 (by decide +kernel) rfl
theorem yw_L_doubt : YWW yL_doubt cL_doubt 5 (some .int) [(0, 17, 20, 18), (0, 17, 24, 77)] 4 := ⟨bw_of 1555 (by decide +kernel) rfl, bw_of 116 (by decide +kernel) rfl, ⟨by decide +kernel, by decide +kernel, by decide +kernel⟩, by decide +kernel⟩
theorem wml_RL_227 : Cond.methodLink RL 227 yL_doubt ∈ BW := bw_of 1553 (by decide +kernel) rfl
theorem wst_L_doubt : Cond.static yL_doubt ∈ BW := bw_of 1554 (by decide +kernel) rfl
theorem yw_X12_doubt : YW yX12_doubt cX12_doubt 3 (some .boolean) 2 := ⟨bw_of 2194 (by decide +kernel) rfl, bw_of 129 (by decide +kernel) rfl, ⟨by decide +kernel, by decide +kernel, by decide +kernel⟩, by decide +kernel⟩
theorem wml_RL_229 : Cond.methodLink RL 229 yX12_doubt ∈ BW := bw_of 2191 (by decide +kernel) rfl
theorem wim_X12_doubt : Cond.instanceMethod yX12_doubt ∈ BW := bw_of 2192 (by decide +kernel) rfl
theorem wse_X12_doubt : Cond.selects RX12 yX12_doubt yX12_doubt ∈ BW := bw_of 2193 (by decide +kernel) rfl
theorem yw_L_wanted : YWW yL_wanted cL_wanted 8 (some .int) [(0, 16, 19, 18), (0, 16, 23, 13)] 7 := ⟨bw_of 1563 (by decide +kernel) rfl, bw_of 116 (by decide +kernel) rfl, ⟨by decide +kernel, by decide +kernel, by decide +kernel⟩, by decide +kernel⟩
theorem wml_RL_230 : Cond.methodLink RL 230 yL_wanted ∈ BW := bw_of 1561 (by decide +kernel) rfl
theorem wst_L_wanted : Cond.static yL_wanted ∈ BW := bw_of 1562 (by decide +kernel) rfl
theorem yw_X12_wanted : YW yX12_wanted cX12_wanted 7 (some .int) 5 := ⟨bw_of 2202 (by decide +kernel) rfl, bw_of 129 (by decide +kernel) rfl, ⟨by decide +kernel, by decide +kernel, by decide +kernel⟩, by decide +kernel⟩
theorem wml_RL_233 : Cond.methodLink RL 233 yX12_wanted ∈ BW := bw_of 2199 (by decide +kernel) rfl
theorem wim_X12_wanted : Cond.instanceMethod yX12_wanted ∈ BW := bw_of 2200 (by decide +kernel) rfl
theorem wse_X12_wanted : Cond.selects RX12 yX12_wanted yX12_wanted ∈ BW := bw_of 2201 (by decide +kernel) rfl
theorem yw_L_foretell : YWW yL_foretell cL_foretell 6 (some .int) [(0, 12, 15, 18), (0, 12, 19, 77)] 5 := ⟨bw_of 1574 (by decide +kernel) rfl, bw_of 116 (by decide +kernel) rfl, ⟨by decide +kernel, by decide +kernel, by decide +kernel⟩, by decide +kernel⟩
theorem wml_RL_234 : Cond.methodLink RL 234 yL_foretell ∈ BW := bw_of 1572 (by decide +kernel) rfl
theorem wst_L_foretell : Cond.static yL_foretell ∈ BW := bw_of 1573 (by decide +kernel) rfl
theorem yw_X12_foretell : YW yX12_foretell cX12_foretell 4 (some .int) 3 := ⟨bw_of 2206 (by decide +kernel) rfl, bw_of 129 (by decide +kernel) rfl, ⟨by decide +kernel, by decide +kernel, by decide +kernel⟩, by decide +kernel⟩
theorem wml_RL_236 : Cond.methodLink RL 236 yX12_foretell ∈ BW := bw_of 2203 (by decide +kernel) rfl
theorem wim_X12_foretell : Cond.instanceMethod yX12_foretell ∈ BW := bw_of 2204 (by decide +kernel) rfl
theorem wse_X12_foretell : Cond.selects RX12 yX12_foretell yX12_foretell ∈ BW := bw_of 2205 (by decide +kernel) rfl
theorem yw_L_far : YWW yL_far cL_far 5 (some .int) [(0, 17, 20, 18)] 4 := ⟨bw_of 1591 (by decide +kernel) rfl, bw_of 116 (by decide +kernel) rfl, ⟨by decide +kernel, by decide +kernel, by decide +kernel⟩, by decide +kernel⟩
theorem wml_RL_237 : Cond.methodLink RL 237 yL_far ∈ BW := bw_of 1589 (by decide +kernel) rfl
theorem wst_L_far : Cond.static yL_far ∈ BW := bw_of 1590 (by decide +kernel) rfl
theorem yw_X12_far : YW yX12_far cX12_far 4 (some .boolean) 2 := ⟨bw_of 2216 (by decide +kernel) rfl, bw_of 129 (by decide +kernel) rfl, ⟨by decide +kernel, by decide +kernel, by decide +kernel⟩, by decide +kernel⟩
theorem wml_RL_239 : Cond.methodLink RL 239 yX12_far ∈ BW := bw_of 2213 (by decide +kernel) rfl
theorem wim_X12_far : Cond.instanceMethod yX12_far ∈ BW := bw_of 2214 (by decide +kernel) rfl
theorem wse_X12_far : Cond.selects RX12 yX12_far yX12_far ∈ BW := bw_of 2215 (by decide +kernel) rfl
theorem yw_L_good : YWW yL_good cL_good 7 (some .int) [(0, 11, 14, 18), (0, 11, 18, 13)] 6 := ⟨bw_of 1602 (by decide +kernel) rfl, bw_of 116 (by decide +kernel) rfl, ⟨by decide +kernel, by decide +kernel, by decide +kernel⟩, by decide +kernel⟩
theorem wml_RL_240 : Cond.methodLink RL 240 yL_good ∈ BW := bw_of 1600 (by decide +kernel) rfl
theorem wst_L_good : Cond.static yL_good ∈ BW := bw_of 1601 (by decide +kernel) rfl
theorem yw_X12_good : YW yX12_good cX12_good 6 none 5 := ⟨bw_of 2220 (by decide +kernel) rfl, bw_of 129 (by decide +kernel) rfl, ⟨by decide +kernel, by decide +kernel, by decide +kernel⟩, by decide +kernel⟩
theorem wml_RL_243 : Cond.methodLink RL 243 yX12_good ∈ BW := bw_of 2217 (by decide +kernel) rfl
theorem wim_X12_good : Cond.instanceMethod yX12_good ∈ BW := bw_of 2218 (by decide +kernel) rfl
theorem wse_X12_good : Cond.selects RX12 yX12_good yX12_good ∈ BW := bw_of 2219 (by decide +kernel) rfl
theorem yw_L_fleet : YWW yL_fleet cL_fleet 7 (some .int) [(0, 11, 14, 13)] 6 := ⟨bw_of 1613 (by decide +kernel) rfl, bw_of 116 (by decide +kernel) rfl, ⟨by decide +kernel, by decide +kernel, by decide +kernel⟩, by decide +kernel⟩
theorem wml_RL_244 : Cond.methodLink RL 244 yL_fleet ∈ BW := bw_of 1611 (by decide +kernel) rfl
theorem wst_L_fleet : Cond.static yL_fleet ∈ BW := bw_of 1612 (by decide +kernel) rfl
theorem yw_X12_fleet : YW yX12_fleet cX12_fleet 6 none 5 := ⟨bw_of 2224 (by decide +kernel) rfl, bw_of 129 (by decide +kernel) rfl, ⟨by decide +kernel, by decide +kernel, by decide +kernel⟩, by decide +kernel⟩
theorem wml_RL_246 : Cond.methodLink RL 246 yX12_fleet ∈ BW := bw_of 2221 (by decide +kernel) rfl
theorem wim_X12_fleet : Cond.instanceMethod yX12_fleet ∈ BW := bw_of 2222 (by decide +kernel) rfl
theorem wse_X12_fleet : Cond.selects RX12 yX12_fleet yX12_fleet ∈ BW := bw_of 2223 (by decide +kernel) rfl
theorem yw_X11_fill : YW yX11_fill cX11_fill 2 (some .long) 1 := ⟨bw_of 701 (by decide +kernel) rfl, bw_of 117 (by decide +kernel) rfl, ⟨by decide +kernel, by decide +kernel, by decide +kernel⟩, by decide +kernel⟩
theorem wml_RL_247 : Cond.methodLink RL 247 yX11_fill ∈ BW := bw_of 698 (by decide +kernel) rfl
theorem wim_X11_fill : Cond.instanceMethod yX11_fill ∈ BW := bw_of 699 (by decide +kernel) rfl
theorem wse_X11_fill : Cond.selects RX11 yX11_fill yX11_fill ∈ BW := bw_of 700 (by decide +kernel) rfl
theorem yw_X12_fill : YW yX12_fill cX12_fill 8 (some .long) 1 := ⟨bw_of 2230 (by decide +kernel) rfl, bw_of 129 (by decide +kernel) rfl, ⟨by decide +kernel, by decide +kernel, by decide +kernel⟩, by decide +kernel⟩
theorem wml_RL_251 : Cond.methodLink RL 251 yX12_fill ∈ BW := bw_of 2227 (by decide +kernel) rfl
theorem wim_X12_fill : Cond.instanceMethod yX12_fill ∈ BW := bw_of 2228 (by decide +kernel) rfl
theorem wse_X12_fill : Cond.selects RX12 yX12_fill yX12_fill ∈ BW := bw_of 2229 (by decide +kernel) rfl
theorem yw_L_cost : YWW yL_cost cL_cost 4 (some .int) [(0, 8, 11, 18)] 3 := ⟨bw_of 1626 (by decide +kernel) rfl, bw_of 116 (by decide +kernel) rfl, ⟨by decide +kernel, by decide +kernel, by decide +kernel⟩, by decide +kernel⟩
theorem wml_RL_252 : Cond.methodLink RL 252 yL_cost ∈ BW := bw_of 1624 (by decide +kernel) rfl
theorem wst_L_cost : Cond.static yL_cost ∈ BW := bw_of 1625 (by decide +kernel) rfl
theorem yw_X12_cost : YW yX12_cost cX12_cost 2 (some .long) 1 := ⟨bw_of 2252 (by decide +kernel) rfl, bw_of 129 (by decide +kernel) rfl, ⟨by decide +kernel, by decide +kernel, by decide +kernel⟩, by decide +kernel⟩
theorem wml_RL_254 : Cond.methodLink RL 254 yX12_cost ∈ BW := bw_of 2249 (by decide +kernel) rfl
theorem wim_X12_cost : Cond.instanceMethod yX12_cost ∈ BW := bw_of 2250 (by decide +kernel) rfl
theorem wse_X12_cost : Cond.selects RX12 yX12_cost yX12_cost ∈ BW := bw_of 2251 (by decide +kernel) rfl
theorem yw_L_worker : YWW yL_worker cL_worker 5 (some .int) [(0, 10, 13, 13), (0, 10, 17, 42)] 4 := ⟨bw_of 1645 (by decide +kernel) rfl, bw_of 116 (by decide +kernel) rfl, ⟨by decide +kernel, by decide +kernel, by decide +kernel⟩, by decide +kernel⟩
theorem wml_RL_255 : Cond.methodLink RL 255 yL_worker ∈ BW := bw_of 1643 (by decide +kernel) rfl
theorem wst_L_worker : Cond.static yL_worker ∈ BW := bw_of 1644 (by decide +kernel) rfl
theorem yw_X12_worker : YW yX12_worker cX12_worker 4 (some .int) 2 := ⟨bw_of 2264 (by decide +kernel) rfl, bw_of 129 (by decide +kernel) rfl, ⟨by decide +kernel, by decide +kernel, by decide +kernel⟩, by decide +kernel⟩
theorem wml_RL_257 : Cond.methodLink RL 257 yX12_worker ∈ BW := bw_of 2261 (by decide +kernel) rfl
theorem wim_X12_worker : Cond.instanceMethod yX12_worker ∈ BW := bw_of 2262 (by decide +kernel) rfl
theorem wse_X12_worker : Cond.selects RX12 yX12_worker yX12_worker ∈ BW := bw_of 2263 (by decide +kernel) rfl
theorem yw_L_alter : YWW yL_alter cL_alter 6 (some .int) [(0, 19, 22, 18), (0, 19, 26, 13), (0, 19, 30, 69)] 5 := ⟨bw_of 1657 (by decide +kernel) rfl, bw_of 116 (by decide +kernel) rfl, ⟨by decide +kernel, by decide +kernel, by decide +kernel⟩, by decide +kernel⟩
theorem wml_RL_258 : Cond.methodLink RL 258 yL_alter ∈ BW := bw_of 1655 (by decide +kernel) rfl
theorem wst_L_alter : Cond.static yL_alter ∈ BW := bw_of 1656 (by decide +kernel) rfl
theorem yw_X12_alter : YW yX12_alter cX12_alter 5 (some .boolean) 3 := ⟨bw_of 2268 (by decide +kernel) rfl, bw_of 129 (by decide +kernel) rfl, ⟨by decide +kernel, by decide +kernel, by decide +kernel⟩, by decide +kernel⟩
theorem wml_RL_260 : Cond.methodLink RL 260 yX12_alter ∈ BW := bw_of 2265 (by decide +kernel) rfl
theorem wim_X12_alter : Cond.instanceMethod yX12_alter ∈ BW := bw_of 2266 (by decide +kernel) rfl
theorem wse_X12_alter : Cond.selects RX12 yX12_alter yX12_alter ∈ BW := bw_of 2267 (by decide +kernel) rfl
theorem yw_L_pay : YWW yL_pay cL_pay 5 (some .int) [(0, 10, 13, 18), (0, 10, 17, 77)] 4 := ⟨bw_of 1669 (by decide +kernel) rfl, bw_of 116 (by decide +kernel) rfl, ⟨by decide +kernel, by decide +kernel, by decide +kernel⟩, by decide +kernel⟩
theorem wml_RL_261 : Cond.methodLink RL 261 yL_pay ∈ BW := bw_of 1667 (by decide +kernel) rfl
theorem wst_L_pay : Cond.static yL_pay ∈ BW := bw_of 1668 (by decide +kernel) rfl
theorem yw_X12_pay : YW yX12_pay cX12_pay 3 (some .int) 2 := ⟨bw_of 2276 (by decide +kernel) rfl, bw_of 129 (by decide +kernel) rfl, ⟨by decide +kernel, by decide +kernel, by decide +kernel⟩, by decide +kernel⟩
theorem wml_RL_263 : Cond.methodLink RL 263 yX12_pay ∈ BW := bw_of 2273 (by decide +kernel) rfl
theorem wim_X12_pay : Cond.instanceMethod yX12_pay ∈ BW := bw_of 2274 (by decide +kernel) rfl
theorem wse_X12_pay : Cond.selects RX12 yX12_pay yX12_pay ∈ BW := bw_of 2275 (by decide +kernel) rfl
theorem yw_X11_wages : YW yX11_wages cX11_wages 1 (some .int) 0 := ⟨bw_of 754 (by decide +kernel) rfl, bw_of 117 (by decide +kernel) rfl, ⟨by decide +kernel, by decide +kernel, by decide +kernel⟩, by decide +kernel⟩
theorem wml_RL_264 : Cond.methodLink RL 264 yX11_wages ∈ BW := bw_of 751 (by decide +kernel) rfl
theorem wim_X11_wages : Cond.instanceMethod yX11_wages ∈ BW := bw_of 752 (by decide +kernel) rfl
theorem wse_X11_wages : Cond.selects RX11 yX11_wages yX11_wages ∈ BW := bw_of 753 (by decide +kernel) rfl
theorem yw_X12_wages : YW yX12_wages cX12_wages 5 (some .int) 0 := ⟨bw_of 2284 (by decide +kernel) rfl, bw_of 129 (by decide +kernel) rfl, ⟨by decide +kernel, by decide +kernel, by decide +kernel⟩, by decide +kernel⟩
theorem wml_RL_267 : Cond.methodLink RL 267 yX12_wages ∈ BW := bw_of 2281 (by decide +kernel) rfl
theorem wim_X12_wages : Cond.instanceMethod yX12_wages ∈ BW := bw_of 2282 (by decide +kernel) rfl
theorem wse_X12_wages : Cond.selects RX12 yX12_wages yX12_wages ∈ BW := bw_of 2283 (by decide +kernel) rfl
theorem yw_L_plan : YWW yL_plan cL_plan 5 (some .int) [(0, 10, 13, 13)] 4 := ⟨bw_of 1680 (by decide +kernel) rfl, bw_of 116 (by decide +kernel) rfl, ⟨by decide +kernel, by decide +kernel, by decide +kernel⟩, by decide +kernel⟩
theorem wml_RL_268 : Cond.methodLink RL 268 yL_plan ∈ BW := bw_of 1678 (by decide +kernel) rfl
theorem wst_L_plan : Cond.static yL_plan ∈ BW := bw_of 1679 (by decide +kernel) rfl
theorem yw_X12_plan : YW yX12_plan cX12_plan 3 (some .int) 2 := ⟨bw_of 2288 (by decide +kernel) rfl, bw_of 129 (by decide +kernel) rfl, ⟨by decide +kernel, by decide +kernel, by decide +kernel⟩, by decide +kernel⟩
theorem wml_RL_270 : Cond.methodLink RL 270 yX12_plan ∈ BW := bw_of 2285 (by decide +kernel) rfl
theorem wim_X12_plan : Cond.instanceMethod yX12_plan ∈ BW := bw_of 2286 (by decide +kernel) rfl
theorem wse_X12_plan : Cond.selects RX12 yX12_plan yX12_plan ∈ BW := bw_of 2287 (by decide +kernel) rfl
theorem yw_L_which : YWW yL_which cL_which 6 (some .int) [(0, 12, 15, 18), (0, 12, 19, 13)] 5 := ⟨bw_of 1719 (by decide +kernel) rfl, bw_of 116 (by decide +kernel) rfl, ⟨by decide +kernel, by decide +kernel, by decide +kernel⟩, by decide +kernel⟩
theorem wml_RL_271 : Cond.methodLink RL 271 yL_which ∈ BW := bw_of 1717 (by decide +kernel) rfl
theorem wst_L_which : Cond.static yL_which ∈ BW := bw_of 1718 (by decide +kernel) rfl
theorem yw_X12_which : YW yX12_which cX12_which 5 (some .int) 3 := ⟨bw_of 2302 (by decide +kernel) rfl, bw_of 129 (by decide +kernel) rfl, ⟨by decide +kernel, by decide +kernel, by decide +kernel⟩, by decide +kernel⟩
theorem wml_RL_273 : Cond.methodLink RL 273 yX12_which ∈ BW := bw_of 2299 (by decide +kernel) rfl
theorem wim_X12_which : Cond.instanceMethod yX12_which ∈ BW := bw_of 2300 (by decide +kernel) rfl
theorem wse_X12_which : Cond.selects RX12 yX12_which yX12_which ∈ BW := bw_of 2301 (by decide +kernel) rfl
theorem yw_X11_beside : YW yX11_beside cX11_beside 2 (some .int) 1 := ⟨bw_of 783 (by decide +kernel) rfl, bw_of 117 (by decide +kernel) rfl, ⟨by decide +kernel, by decide +kernel, by decide +kernel⟩, by decide +kernel⟩
theorem wml_RL_274 : Cond.methodLink RL 274 yX11_beside ∈ BW := bw_of 780 (by decide +kernel) rfl
theorem wim_X11_beside : Cond.instanceMethod yX11_beside ∈ BW := bw_of 781 (by decide +kernel) rfl
theorem wse_X11_beside : Cond.selects RX11 yX11_beside yX11_beside ∈ BW := bw_of 782 (by decide +kernel) rfl
theorem yw_X12_beside : YW yX12_beside cX12_beside 8 (some .int) 1 := ⟨bw_of 2306 (by decide +kernel) rfl, bw_of 129 (by decide +kernel) rfl, ⟨by decide +kernel, by decide +kernel, by decide +kernel⟩, by decide +kernel⟩
theorem wml_RL_278 : Cond.methodLink RL 278 yX12_beside ∈ BW := bw_of 2303 (by decide +kernel) rfl
theorem wim_X12_beside : Cond.instanceMethod yX12_beside ∈ BW := bw_of 2304 (by decide +kernel) rfl
theorem wse_X12_beside : Cond.selects RX12 yX12_beside yX12_beside ∈ BW := bw_of 2305 (by decide +kernel) rfl
theorem yw_L_tear : YWW yL_tear cL_tear 5 (some .int) [(0, 10, 13, 77)] 4 := ⟨bw_of 1730 (by decide +kernel) rfl, bw_of 116 (by decide +kernel) rfl, ⟨by decide +kernel, by decide +kernel, by decide +kernel⟩, by decide +kernel⟩
theorem wml_RL_279 : Cond.methodLink RL 279 yL_tear ∈ BW := bw_of 1728 (by decide +kernel) rfl
theorem wst_L_tear : Cond.static yL_tear ∈ BW := bw_of 1729 (by decide +kernel) rfl
theorem yw_X12_tear : YW yX12_tear cX12_tear 4 (some .int) 2 := ⟨bw_of 2310 (by decide +kernel) rfl, bw_of 129 (by decide +kernel) rfl, ⟨by decide +kernel, by decide +kernel, by decide +kernel⟩, by decide +kernel⟩
theorem wml_RL_281 : Cond.methodLink RL 281 yX12_tear ∈ BW := bw_of 2307 (by decide +kernel) rfl
theorem wim_X12_tear : Cond.instanceMethod yX12_tear ∈ BW := bw_of 2308 (by decide +kernel) rfl
theorem wse_X12_tear : Cond.selects RX12 yX12_tear yX12_tear ∈ BW := bw_of 2309 (by decide +kernel) rfl
theorem yw_X11_check : YW yX11_check cX11_check 1 (some .int) 0 := ⟨bw_of 804 (by decide +kernel) rfl, bw_of 117 (by decide +kernel) rfl, ⟨by decide +kernel, by decide +kernel, by decide +kernel⟩, by decide +kernel⟩
theorem wml_RL_282 : Cond.methodLink RL 282 yX11_check ∈ BW := bw_of 801 (by decide +kernel) rfl
theorem wim_X11_check : Cond.instanceMethod yX11_check ∈ BW := bw_of 802 (by decide +kernel) rfl
theorem wse_X11_check : Cond.selects RX11 yX11_check yX11_check ∈ BW := bw_of 803 (by decide +kernel) rfl
theorem yw_X12_check : YW yX12_check cX12_check 2 (some .int) 0 := ⟨bw_of 2318 (by decide +kernel) rfl, bw_of 129 (by decide +kernel) rfl, ⟨by decide +kernel, by decide +kernel, by decide +kernel⟩, by decide +kernel⟩
theorem wml_RL_285 : Cond.methodLink RL 285 yX12_check ∈ BW := bw_of 2315 (by decide +kernel) rfl
theorem wim_X12_check : Cond.instanceMethod yX12_check ∈ BW := bw_of 2316 (by decide +kernel) rfl
theorem wse_X12_check : Cond.selects RX12 yX12_check yX12_check ∈ BW := bw_of 2317 (by decide +kernel) rfl
theorem yw_X11_image : YW yX11_image cX11_image 1 none 0 := ⟨bw_of 817 (by decide +kernel) rfl, bw_of 117 (by decide +kernel) rfl, ⟨by decide +kernel, by decide +kernel, by decide +kernel⟩, by decide +kernel⟩
theorem wml_RL_286 : Cond.methodLink RL 286 yX11_image ∈ BW := bw_of 814 (by decide +kernel) rfl
theorem wim_X11_image : Cond.instanceMethod yX11_image ∈ BW := bw_of 815 (by decide +kernel) rfl
theorem wse_X11_image : Cond.selects RX11 yX11_image yX11_image ∈ BW := bw_of 816 (by decide +kernel) rfl
theorem yw_X12_image : YW yX12_image cX12_image 2 none 0 := ⟨bw_of 1851 (by decide +kernel) rfl, bw_of 129 (by decide +kernel) rfl, ⟨by decide +kernel, by decide +kernel, by decide +kernel⟩, by decide +kernel⟩
theorem wml_RL_289 : Cond.methodLink RL 289 yX12_image ∈ BW := bw_of 1848 (by decide +kernel) rfl
theorem wim_X12_image : Cond.instanceMethod yX12_image ∈ BW := bw_of 1849 (by decide +kernel) rfl
theorem wse_X12_image : Cond.selects RX12 yX12_image yX12_image ∈ BW := bw_of 1850 (by decide +kernel) rfl
theorem yw_X11_back : YW yX11_back cX11_back 1 (some .boolean) 0 := ⟨bw_of 857 (by decide +kernel) rfl, bw_of 117 (by decide +kernel) rfl, ⟨by decide +kernel, by decide +kernel, by decide +kernel⟩, by decide +kernel⟩
theorem wml_RL_290 : Cond.methodLink RL 290 yX11_back ∈ BW := bw_of 854 (by decide +kernel) rfl
theorem wim_X11_back : Cond.instanceMethod yX11_back ∈ BW := bw_of 855 (by decide +kernel) rfl
theorem wse_X11_back : Cond.selects RX11 yX11_back yX11_back ∈ BW := bw_of 856 (by decide +kernel) rfl
theorem yw_X12_back : YW yX12_back cX12_back 2 (some .boolean) 0 := ⟨bw_of 1855 (by decide +kernel) rfl, bw_of 129 (by decide +kernel) rfl, ⟨by decide +kernel, by decide +kernel, by decide +kernel⟩, by decide +kernel⟩
theorem wml_RL_294 : Cond.methodLink RL 294 yX12_back ∈ BW := bw_of 1852 (by decide +kernel) rfl
theorem wim_X12_back : Cond.instanceMethod yX12_back ∈ BW := bw_of 1853 (by decide +kernel) rfl
theorem wse_X12_back : Cond.selects RX12 yX12_back yX12_back ∈ BW := bw_of 1854 (by decide +kernel) rfl
theorem yw_X11_count : YW yX11_count cX11_count 2 (some .int) 1 := ⟨bw_of 861 (by decide +kernel) rfl, bw_of 117 (by decide +kernel) rfl, ⟨by decide +kernel, by decide +kernel, by decide +kernel⟩, by decide +kernel⟩
theorem wml_RL_295 : Cond.methodLink RL 295 yX11_count ∈ BW := bw_of 858 (by decide +kernel) rfl
theorem wim_X11_count : Cond.instanceMethod yX11_count ∈ BW := bw_of 859 (by decide +kernel) rfl
theorem wse_X11_count : Cond.selects RX11 yX11_count yX11_count ∈ BW := bw_of 860 (by decide +kernel) rfl
theorem yw_X12_count : YW yX12_count cX12_count 4 (some .int) 1 := ⟨bw_of 2322 (by decide +kernel) rfl, bw_of 129 (by decide +kernel) rfl, ⟨by decide +kernel, by decide +kernel, by decide +kernel⟩, by decide +kernel⟩
theorem wml_RL_298 : Cond.methodLink RL 298 yX12_count ∈ BW := bw_of 2319 (by decide +kernel) rfl
theorem wim_X12_count : Cond.instanceMethod yX12_count ∈ BW := bw_of 2320 (by decide +kernel) rfl
theorem wse_X12_count : Cond.selects RX12 yX12_count yX12_count ∈ BW := bw_of 2321 (by decide +kernel) rfl
abbrev ML_law (nm : String) : MI := (RL, cL_law, 8, ret, 117, none, nm)
noncomputable def XL_law_L2868 (F : Nat) (sl : Nat) (sc : Nat → Int) (rc23 : Option Nat → Option Nat → Option Nat → Int → HP → Option (Int × HP)) (l1 : Option Nat) (l2 : Option Nat) (l3 : Option Nat) (l4 : Int)  (h : HP) : Option (Int × HP) :=
  rc23 l1 l2 l3 (w32 (l4 + 6)) h
set_option maxRecDepth 100000 in
theorem SXL_law_L2868 {K : Ctx} {F : Nat} {hf : HP} (sl : Nat) (sc : Nat → Int) (Q : State → Prop) (nm : String) (hSc : ScK K sl sc) (hEnd : ∀ (pc : Nat) (lv : List (Nat × AV)), decode cL_law pc = .ok (.ireturn, 1) → Go K (ML_law nm) Q hf pc lv [vi 1] hf) (rc23 : Option Nat → Option Nat → Option Nat → Int → HP → Option (Int × HP)) (hrc23 : ∀ l1 l2 l3 l4 h, rc23 l1 l2 l3 l4 h = some (1, hf) → Go K (ML_law nm) Q hf 23 [(0, vr (some 4000000)), (1, vr l1), (2, vr l2), (3, vr l3), (4, vi l4)] [] h) (l1 : Option Nat) (l2 : Option Nat) (l3 : Option Nat) (l4 : Int)  (h : HP) (E : XL_law_L2868 F sl sc rc23 l1 l2 l3 l4 h = some (1, hf)) : Go K (ML_law nm) Q hf 2868 [(0, vr (some 4000000)), (1, vr l1), (2, vr l2), (3, vr l3), (4, vi l4)] [] h := by
  unfold XL_law_L2868 at E
  refine go_iinc (j := 4) (n := 2871) (lv' := [(4, vi (w32 (l4 + 6))), (0, vr (some 4000000)), (1, vr l1), (2, vr l2), (3, vr l3)]) rfl dL_law_2868 rfl (Nat.le_of_ble_eq_true rfl) rfl ?_
  refine go_goto (tgt := 23) dL_law_2871 rfl ?_
  refine go_pick (lv' := [(0, vr (some 4000000)), (1, vr l1), (2, vr l2), (3, vr l3), (4, vi (w32 (l4 + 6)))]) [1, 2, 3, 4, 0] rfl ?_
  exact hrc23 _ _ _ _ _ E
noncomputable def XL_law_L236 (F : Nat) (sl : Nat) (sc : Nat → Int) (rc23 : Option Nat → Option Nat → Option Nat → Int → HP → Option (Int × HP)) (l1 : Option Nat) (l2 : Option Nat) (l3 : Option Nat) (l4 : Int)  (h : HP) : Option (Int × HP) :=
  (xsc sl sc (w32 (l4 + 1))).bind fun v1 =>
  (xsc sl sc (w32 (l4 + 2))).bind fun v2 =>
  (xsc sl sc (w32 (l4 + 3))).bind fun v3 =>
  (xsc sl sc (w32 (l4 + 4))).bind fun v4 =>
  (xsc sl sc (w32 (l4 + 5))).bind fun v5 =>
  (xrc h l1 11 6).bind fun a8 =>
  xb (X11_feed F a8 v1 v2 v3 v4 v5 h) fun v6 h7 =>
  (xsc sl sc (w32 (l4 + 1))).bind fun v9 =>
  (xsc sl sc (w32 (l4 + 2))).bind fun v10 =>
  (xsc sl sc (w32 (l4 + 3))).bind fun v11 =>
  (xsc sl sc (w32 (l4 + 4))).bind fun v12 =>
  (xsc sl sc (w32 (l4 + 5))).bind fun v13 =>
  (xrc h7 l2 12 31).bind fun a16 =>
  xb (X12_feed F a16 v9 v10 v11 v12 v13 h7) fun v14 h15 =>
  if v6 = v14 then
    XL_law_L2868 F sl sc rc23 l1 l2 l3 l4 h15
  else
    some (0, h15)
set_option maxRecDepth 100000 in
theorem SXL_law_L236 {K : Ctx} {F : Nat} {hf : HP} (sl : Nat) (sc : Nat → Int) (Q : State → Prop) (nm : String) (hSc : ScK K sl sc) (hEnd : ∀ (pc : Nat) (lv : List (Nat × AV)), decode cL_law pc = .ok (.ireturn, 1) → Go K (ML_law nm) Q hf pc lv [vi 1] hf) (rc23 : Option Nat → Option Nat → Option Nat → Int → HP → Option (Int × HP)) (hrc23 : ∀ l1 l2 l3 l4 h, rc23 l1 l2 l3 l4 h = some (1, hf) → Go K (ML_law nm) Q hf 23 [(0, vr (some 4000000)), (1, vr l1), (2, vr l2), (3, vr l3), (4, vi l4)] [] h) (l1 : Option Nat) (l2 : Option Nat) (l3 : Option Nat) (l4 : Int)  (h : HP) (E : XL_law_L236 F sl sc rc23 l1 l2 l3 l4 h = some (1, hf)) : Go K (ML_law nm) Q hf 236 [(0, vr (some 4000000)), (1, vr l1), (2, vr l2), (3, vr l3), (4, vi l4)] [] h := by
  unfold XL_law_L236 at E
  refine go_aload_n (j := 1) (n := 237) rfl rfl dL_law_236 rfl ?_
  refine go_aload_n (j := 0) (n := 238) rfl rfl dL_law_237 rfl ?_
  refine go_iload (j := 4) (n := 240) rfl dL_law_238 rfl ?_
  refine go_iconst (z := 1) (n := 241) ⟨by decide, by decide⟩ dL_law_240 rfl ?_
  refine go_iadd (n := 242) dL_law_241 rfl ?_
  replace E := Option.bind_eq_some_iff.mp E; obtain ⟨v1, ev1, E⟩ := E
  refine go_sld (n := 243) hSc ev1 dL_law_242 rfl ?_
  refine go_aload_n (j := 0) (n := 244) rfl rfl dL_law_243 rfl ?_
  refine go_iload (j := 4) (n := 246) rfl dL_law_244 rfl ?_
  refine go_iconst (z := 2) (n := 247) ⟨by decide, by decide⟩ dL_law_246 rfl ?_
  refine go_iadd (n := 248) dL_law_247 rfl ?_
  replace E := Option.bind_eq_some_iff.mp E; obtain ⟨v2, ev2, E⟩ := E
  refine go_sld (n := 249) hSc ev2 dL_law_248 rfl ?_
  refine go_aload_n (j := 0) (n := 250) rfl rfl dL_law_249 rfl ?_
  refine go_iload (j := 4) (n := 252) rfl dL_law_250 rfl ?_
  refine go_iconst (z := 3) (n := 253) ⟨by decide, by decide⟩ dL_law_252 rfl ?_
  refine go_iadd (n := 254) dL_law_253 rfl ?_
  replace E := Option.bind_eq_some_iff.mp E; obtain ⟨v3, ev3, E⟩ := E
  refine go_sld (n := 255) hSc ev3 dL_law_254 rfl ?_
  refine go_aload_n (j := 0) (n := 256) rfl rfl dL_law_255 rfl ?_
  refine go_iload (j := 4) (n := 258) rfl dL_law_256 rfl ?_
  refine go_iconst (z := 4) (n := 259) ⟨by decide, by decide⟩ dL_law_258 rfl ?_
  refine go_iadd (n := 260) dL_law_259 rfl ?_
  replace E := Option.bind_eq_some_iff.mp E; obtain ⟨v4, ev4, E⟩ := E
  refine go_sld (n := 261) hSc ev4 dL_law_260 rfl ?_
  refine go_aload_n (j := 0) (n := 262) rfl rfl dL_law_261 rfl ?_
  refine go_iload (j := 4) (n := 264) rfl dL_law_262 rfl ?_
  refine go_iconst (z := 5) (n := 265) ⟨by decide, by decide⟩ dL_law_264 rfl ?_
  refine go_iadd (n := 266) dL_law_265 rfl ?_
  replace E := Option.bind_eq_some_iff.mp E; obtain ⟨v5, ev5, E⟩ := E
  refine go_sld (n := 267) hSc ev5 dL_law_266 rfl ?_
  replace E := Option.bind_eq_some_iff.mp E; obtain ⟨a8, ea8, E⟩ := E
  obtain ⟨fa8, ga8⟩ := xrc_some ea8
  replace E := xb_some E; obtain ⟨v6, h7, ev6, E⟩ := E
  refine go_callV (y := yX11_feed) (n := 270) (st := []) (as := [vi v1, vi v2, vi v3, vi v4, vi v5]) (stk9 := [vi v6]) (OX11_feed ev6) yw_X11_feed ci_11 ga8 wml_RL_132 wim_X11_feed wse_X11_feed (Nat.le_of_ble_eq_true rfl) rfl ⟨Nat.le_of_ble_eq_true rfl, Nat.le_of_ble_eq_true rfl⟩ (Nat.le_of_ble_eq_true rfl) dL_law_267 rfl (by cases fa8; rfl) rfl ?_
  refine go_aload_n (j := 2) (n := 271) rfl rfl dL_law_270 rfl ?_
  refine go_aload_n (j := 0) (n := 272) rfl rfl dL_law_271 rfl ?_
  refine go_iload (j := 4) (n := 274) rfl dL_law_272 rfl ?_
  refine go_iconst (z := 1) (n := 275) ⟨by decide, by decide⟩ dL_law_274 rfl ?_
  refine go_iadd (n := 276) dL_law_275 rfl ?_
  replace E := Option.bind_eq_some_iff.mp E; obtain ⟨v9, ev9, E⟩ := E
  refine go_sld (n := 277) hSc ev9 dL_law_276 rfl ?_
  refine go_aload_n (j := 0) (n := 278) rfl rfl dL_law_277 rfl ?_
  refine go_iload (j := 4) (n := 280) rfl dL_law_278 rfl ?_
  refine go_iconst (z := 2) (n := 281) ⟨by decide, by decide⟩ dL_law_280 rfl ?_
  refine go_iadd (n := 282) dL_law_281 rfl ?_
  replace E := Option.bind_eq_some_iff.mp E; obtain ⟨v10, ev10, E⟩ := E
  refine go_sld (n := 283) hSc ev10 dL_law_282 rfl ?_
  refine go_aload_n (j := 0) (n := 284) rfl rfl dL_law_283 rfl ?_
  refine go_iload (j := 4) (n := 286) rfl dL_law_284 rfl ?_
  refine go_iconst (z := 3) (n := 287) ⟨by decide, by decide⟩ dL_law_286 rfl ?_
  refine go_iadd (n := 288) dL_law_287 rfl ?_
  replace E := Option.bind_eq_some_iff.mp E; obtain ⟨v11, ev11, E⟩ := E
  refine go_sld (n := 289) hSc ev11 dL_law_288 rfl ?_
  refine go_aload_n (j := 0) (n := 290) rfl rfl dL_law_289 rfl ?_
  refine go_iload (j := 4) (n := 292) rfl dL_law_290 rfl ?_
  refine go_iconst (z := 4) (n := 293) ⟨by decide, by decide⟩ dL_law_292 rfl ?_
  refine go_iadd (n := 294) dL_law_293 rfl ?_
  replace E := Option.bind_eq_some_iff.mp E; obtain ⟨v12, ev12, E⟩ := E
  refine go_sld (n := 295) hSc ev12 dL_law_294 rfl ?_
  refine go_aload_n (j := 0) (n := 296) rfl rfl dL_law_295 rfl ?_
  refine go_iload (j := 4) (n := 298) rfl dL_law_296 rfl ?_
  refine go_iconst (z := 5) (n := 299) ⟨by decide, by decide⟩ dL_law_298 rfl ?_
  refine go_iadd (n := 300) dL_law_299 rfl ?_
  replace E := Option.bind_eq_some_iff.mp E; obtain ⟨v13, ev13, E⟩ := E
  refine go_sld (n := 301) hSc ev13 dL_law_300 rfl ?_
  replace E := Option.bind_eq_some_iff.mp E; obtain ⟨a16, ea16, E⟩ := E
  obtain ⟨fa16, ga16⟩ := xrc_some ea16
  replace E := xb_some E; obtain ⟨v14, h15, ev14, E⟩ := E
  refine go_callV (y := yX12_feed) (n := 304) (st := [vi v6]) (as := [vi v9, vi v10, vi v11, vi v12, vi v13]) (stk9 := [vi v14, vi v6]) (OX12_feed ev14) yw_X12_feed ci_12 ga16 wml_RL_135 wim_X12_feed wse_X12_feed (Nat.le_of_ble_eq_true rfl) rfl ⟨Nat.le_of_ble_eq_true rfl, Nat.le_of_ble_eq_true rfl⟩ (Nat.le_of_ble_eq_true rfl) dL_law_301 rfl (by cases fa16; rfl) rfl ?_
  refine go_icmp_eq (tgt := 2868) (n := 307) dL_law_304 rfl rfl (fun c17 => ?_) (fun c17 => ?_)
  · rw [if_pos c17] at E
    exact SXL_law_L2868 sl sc Q nm hSc hEnd _ hrc23 _ _ _ _  _ E
  · rw [if_neg c17] at E
    refine go_iconst (z := 0) (n := 308) ⟨by decide, by decide⟩ dL_law_307 rfl ?_
    exact absurd (Prod.mk.inj (Option.some.inj E)).1 (by decide)
noncomputable def XL_law_L309 (F : Nat) (sl : Nat) (sc : Nat → Int) (rc23 : Option Nat → Option Nat → Option Nat → Int → HP → Option (Int × HP)) (l1 : Option Nat) (l2 : Option Nat) (l3 : Option Nat) (l4 : Int)  (h : HP) : Option (Int × HP) :=
  (xsc sl sc (w32 (l4 + 1))).bind fun v1 =>
  (xrc h l1 11 6).bind fun a4 =>
  xb (X11_end F a4 v1 h) fun v2 h3 =>
  (xsc sl sc (w32 (l4 + 1))).bind fun v5 =>
  (xrc h3 l2 12 31).bind fun a8 =>
  xb (X12_end F a8 v5 h3) fun v6 h7 =>
  if v2 = v6 then
    XL_law_L2868 F sl sc rc23 l1 l2 l3 l4 h7
  else
    some (0, h7)
set_option maxRecDepth 100000 in
theorem SXL_law_L309 {K : Ctx} {F : Nat} {hf : HP} (sl : Nat) (sc : Nat → Int) (Q : State → Prop) (nm : String) (hSc : ScK K sl sc) (hEnd : ∀ (pc : Nat) (lv : List (Nat × AV)), decode cL_law pc = .ok (.ireturn, 1) → Go K (ML_law nm) Q hf pc lv [vi 1] hf) (rc23 : Option Nat → Option Nat → Option Nat → Int → HP → Option (Int × HP)) (hrc23 : ∀ l1 l2 l3 l4 h, rc23 l1 l2 l3 l4 h = some (1, hf) → Go K (ML_law nm) Q hf 23 [(0, vr (some 4000000)), (1, vr l1), (2, vr l2), (3, vr l3), (4, vi l4)] [] h) (l1 : Option Nat) (l2 : Option Nat) (l3 : Option Nat) (l4 : Int)  (h : HP) (E : XL_law_L309 F sl sc rc23 l1 l2 l3 l4 h = some (1, hf)) : Go K (ML_law nm) Q hf 309 [(0, vr (some 4000000)), (1, vr l1), (2, vr l2), (3, vr l3), (4, vi l4)] [] h := by
  unfold XL_law_L309 at E
  refine go_aload_n (j := 1) (n := 310) rfl rfl dL_law_309 rfl ?_
  refine go_aload_n (j := 0) (n := 311) rfl rfl dL_law_310 rfl ?_
  refine go_iload (j := 4) (n := 313) rfl dL_law_311 rfl ?_
  refine go_iconst (z := 1) (n := 314) ⟨by decide, by decide⟩ dL_law_313 rfl ?_
  refine go_iadd (n := 315) dL_law_314 rfl ?_
  replace E := Option.bind_eq_some_iff.mp E; obtain ⟨v1, ev1, E⟩ := E
  refine go_sld (n := 316) hSc ev1 dL_law_315 rfl ?_
  replace E := Option.bind_eq_some_iff.mp E; obtain ⟨a4, ea4, E⟩ := E
  obtain ⟨fa4, ga4⟩ := xrc_some ea4
  replace E := xb_some E; obtain ⟨v2, h3, ev2, E⟩ := E
  refine go_callV (y := yX11_end) (n := 319) (st := []) (as := [vi v1]) (stk9 := [vi v2]) (OX11_end ev2) yw_X11_end ci_11 ga4 wml_RL_136 wim_X11_end wse_X11_end (Nat.le_of_ble_eq_true rfl) rfl ⟨Nat.le_of_ble_eq_true rfl, Nat.le_of_ble_eq_true rfl⟩ (Nat.le_of_ble_eq_true rfl) dL_law_316 rfl (by cases fa4; rfl) rfl ?_
  refine go_aload_n (j := 2) (n := 320) rfl rfl dL_law_319 rfl ?_
  refine go_aload_n (j := 0) (n := 321) rfl rfl dL_law_320 rfl ?_
  refine go_iload (j := 4) (n := 323) rfl dL_law_321 rfl ?_
  refine go_iconst (z := 1) (n := 324) ⟨by decide, by decide⟩ dL_law_323 rfl ?_
  refine go_iadd (n := 325) dL_law_324 rfl ?_
  replace E := Option.bind_eq_some_iff.mp E; obtain ⟨v5, ev5, E⟩ := E
  refine go_sld (n := 326) hSc ev5 dL_law_325 rfl ?_
  replace E := Option.bind_eq_some_iff.mp E; obtain ⟨a8, ea8, E⟩ := E
  obtain ⟨fa8, ga8⟩ := xrc_some ea8
  replace E := xb_some E; obtain ⟨v6, h7, ev6, E⟩ := E
  refine go_callV (y := yX12_end) (n := 329) (st := [vi v2]) (as := [vi v5]) (stk9 := [vi v6, vi v2]) (OX12_end ev6) yw_X12_end ci_12 ga8 wml_RL_139 wim_X12_end wse_X12_end (Nat.le_of_ble_eq_true rfl) rfl ⟨Nat.le_of_ble_eq_true rfl, Nat.le_of_ble_eq_true rfl⟩ (Nat.le_of_ble_eq_true rfl) dL_law_326 rfl (by cases fa8; rfl) rfl ?_
  refine go_icmp_eq (tgt := 2868) (n := 332) dL_law_329 rfl rfl (fun c9 => ?_) (fun c9 => ?_)
  · rw [if_pos c9] at E
    exact SXL_law_L2868 sl sc Q nm hSc hEnd _ hrc23 _ _ _ _  _ E
  · rw [if_neg c9] at E
    refine go_iconst (z := 0) (n := 333) ⟨by decide, by decide⟩ dL_law_332 rfl ?_
    exact absurd (Prod.mk.inj (Option.some.inj E)).1 (by decide)
noncomputable def XL_law_L334 (F : Nat) (sl : Nat) (sc : Nat → Int) (rc23 : Option Nat → Option Nat → Option Nat → Int → HP → Option (Int × HP)) (l1 : Option Nat) (l2 : Option Nat) (l3 : Option Nat) (l4 : Int)  (h : HP) : Option (Int × HP) :=
  (xsc sl sc (w32 (l4 + 1))).bind fun v1 =>
  (xsc sl sc (w32 (l4 + 2))).bind fun v2 =>
  xb (XL_day F l1 v1 v2 h) fun v3 h4 =>
  (xsc sl sc (w32 (l4 + 1))).bind fun v5 =>
  (xsc sl sc (w32 (l4 + 2))).bind fun v6 =>
  (xrc h4 l2 12 31).bind fun a9 =>
  xb (X12_day F a9 v5 v6 h4) fun v7 h8 =>
  (xrc h8 l2 12 31).bind fun a12 =>
  xb (X12_thrown F a12 h8) fun v10 h11 =>
  if v10 = v3 then
    XL_law_L2868 F sl sc rc23 l1 l2 l3 l4 h11
  else
    some (0, h11)
set_option maxRecDepth 100000 in
theorem SXL_law_L334 {K : Ctx} {F : Nat} {hf : HP} (sl : Nat) (sc : Nat → Int) (Q : State → Prop) (nm : String) (hSc : ScK K sl sc) (hEnd : ∀ (pc : Nat) (lv : List (Nat × AV)), decode cL_law pc = .ok (.ireturn, 1) → Go K (ML_law nm) Q hf pc lv [vi 1] hf) (rc23 : Option Nat → Option Nat → Option Nat → Int → HP → Option (Int × HP)) (hrc23 : ∀ l1 l2 l3 l4 h, rc23 l1 l2 l3 l4 h = some (1, hf) → Go K (ML_law nm) Q hf 23 [(0, vr (some 4000000)), (1, vr l1), (2, vr l2), (3, vr l3), (4, vi l4)] [] h) (l1 : Option Nat) (l2 : Option Nat) (l3 : Option Nat) (l4 : Int)  (h : HP) (E : XL_law_L334 F sl sc rc23 l1 l2 l3 l4 h = some (1, hf)) : Go K (ML_law nm) Q hf 334 [(0, vr (some 4000000)), (1, vr l1), (2, vr l2), (3, vr l3), (4, vi l4)] [] h := by
  unfold XL_law_L334 at E
  refine go_aload_n (j := 1) (n := 335) rfl rfl dL_law_334 rfl ?_
  refine go_aload_n (j := 0) (n := 336) rfl rfl dL_law_335 rfl ?_
  refine go_iload (j := 4) (n := 338) rfl dL_law_336 rfl ?_
  refine go_iconst (z := 1) (n := 339) ⟨by decide, by decide⟩ dL_law_338 rfl ?_
  refine go_iadd (n := 340) dL_law_339 rfl ?_
  replace E := Option.bind_eq_some_iff.mp E; obtain ⟨v1, ev1, E⟩ := E
  refine go_sld (n := 341) hSc ev1 dL_law_340 rfl ?_
  refine go_aload_n (j := 0) (n := 342) rfl rfl dL_law_341 rfl ?_
  refine go_iload (j := 4) (n := 344) rfl dL_law_342 rfl ?_
  refine go_iconst (z := 2) (n := 345) ⟨by decide, by decide⟩ dL_law_344 rfl ?_
  refine go_iadd (n := 346) dL_law_345 rfl ?_
  replace E := Option.bind_eq_some_iff.mp E; obtain ⟨v2, ev2, E⟩ := E
  refine go_sld (n := 347) hSc ev2 dL_law_346 rfl ?_
  replace E := xb_some E; obtain ⟨v3, h4, ev3, E⟩ := E
  refine go_callSW (y := yL_day) (n := 350) (st := []) (as := [vr l1, vi v1, vi v2]) (stk9 := [vi v3]) (OXL_day ev3) yw_L_day wml_RL_140 wst_L_day (Nat.le_of_ble_eq_true rfl) rfl ⟨Nat.le_of_ble_eq_true rfl, Nat.le_of_ble_eq_true rfl⟩ (Nat.le_of_ble_eq_true rfl) dL_law_347 rfl rfl rfl ?_
  refine go_istore (n := 352) (lv' := [(5, vi v3), (0, vr (some 4000000)), (1, vr l1), (2, vr l2), (3, vr l3), (4, vi l4)]) dL_law_350 rfl (Nat.le_of_ble_eq_true rfl) rfl ?_
  refine go_aload_n (j := 3) (n := 353) rfl rfl dL_law_352 rfl ?_
  refine go_aload_n (j := 1) (n := 354) rfl rfl dL_law_353 rfl ?_
  refine go_iload (j := 5) (n := 356) rfl dL_law_354 rfl ?_
  refine go_iconst (z := 1) (n := 357) ⟨by decide, by decide⟩ dL_law_356 rfl ?_
  refine go_iadd (n := 358) dL_law_357 rfl ?_
  replace E := Option.bind_eq_some_iff.mp E; obtain ⟨v5, ev5, E⟩ := E
  refine go_sld (n := 359) hSc ev5 dL_law_358 rfl ?_
  refine go_aload_n (j := 1) (n := 360) rfl rfl dL_law_359 rfl ?_
  refine go_iload (j := 5) (n := 362) rfl dL_law_360 rfl ?_
  refine go_iconst (z := 2) (n := 363) ⟨by decide, by decide⟩ dL_law_362 rfl ?_
  refine go_iadd (n := 364) dL_law_363 rfl ?_
  replace E := Option.bind_eq_some_iff.mp E; obtain ⟨v6, ev6, E⟩ := E
  refine go_sld (n := 365) hSc ev6 dL_law_364 rfl ?_
  replace E := Option.bind_eq_some_iff.mp E; obtain ⟨a9, ea9, E⟩ := E
  obtain ⟨fa9, ga9⟩ := xrc_some ea9
  replace E := xb_some E; obtain ⟨v7, h8, ev7, E⟩ := E
  refine go_callV (y := yX12_day) (n := 368) (st := []) (as := [vi v5, vi v6]) (stk9 := []) (OX12_day ev7) yw_X12_day ci_12 ga9 wml_RL_145 wim_X12_day wse_X12_day (Nat.le_of_ble_eq_true rfl) rfl ⟨Nat.le_of_ble_eq_true rfl, Nat.le_of_ble_eq_true rfl⟩ (Nat.le_of_ble_eq_true rfl) dL_law_365 rfl (by cases fa9; rfl) rfl ?_
  refine go_aload_n (j := 3) (n := 369) rfl rfl dL_law_368 rfl ?_
  replace E := Option.bind_eq_some_iff.mp E; obtain ⟨a12, ea12, E⟩ := E
  obtain ⟨fa12, ga12⟩ := xrc_some ea12
  replace E := xb_some E; obtain ⟨v10, h11, ev10, E⟩ := E
  refine go_callV (y := yX12_thrown) (n := 372) (st := []) (as := []) (stk9 := [vi v10]) (OX12_thrown ev10) yw_X12_thrown ci_12 ga12 wml_RL_146 wim_X12_thrown wse_X12_thrown (Nat.le_of_ble_eq_true rfl) rfl ⟨Nat.le_of_ble_eq_true rfl, Nat.le_of_ble_eq_true rfl⟩ (Nat.le_of_ble_eq_true rfl) dL_law_369 rfl (by cases fa12; rfl) rfl ?_
  refine go_iload (j := 0) (n := 374) rfl dL_law_372 rfl ?_
  refine go_icmp_eq (tgt := 379) (n := 377) dL_law_374 rfl rfl (fun c13 => ?_) (fun c13 => ?_)
  · rw [if_pos c13] at E
    refine go_goto (tgt := 2868) dL_law_379 rfl ?_
    refine go_pick (lv' := [(0, vr (some 4000000)), (1, vr l1), (2, vr l2), (3, vr l3), (4, vi l4)]) [1, 2, 3, 4, 5] rfl ?_
    exact SXL_law_L2868 sl sc Q nm hSc hEnd _ hrc23 _ _ _ _  _ E
  · rw [if_neg c13] at E
    refine go_iconst (z := 0) (n := 378) ⟨by decide, by decide⟩ dL_law_377 rfl ?_
    exact absurd (Prod.mk.inj (Option.some.inj E)).1 (by decide)
noncomputable def XL_law_L382 (F : Nat) (sl : Nat) (sc : Nat → Int) (rc23 : Option Nat → Option Nat → Option Nat → Int → HP → Option (Int × HP)) (l1 : Option Nat) (l2 : Option Nat) (l3 : Option Nat) (l4 : Int)  (h : HP) : Option (Int × HP) :=
  (xsc sl sc (w32 (l4 + 1))).bind fun v1 =>
  (xsc sl sc (w32 (l4 + 2))).bind fun v2 =>
  xb (XL_old F l1 v1 v2 h) fun v3 h4 =>
  (xsc sl sc (w32 (l4 + 1))).bind fun v5 =>
  (xsc sl sc (w32 (l4 + 2))).bind fun v6 =>
  (xrc h4 l2 12 31).bind fun a9 =>
  xb (X12_old F a9 v5 v6 h4) fun v7 h8 =>
  (xrc h8 l2 12 31).bind fun a12 =>
  xb (X12_thrown F a12 h8) fun v10 h11 =>
  if v10 = v3 then
    XL_law_L2868 F sl sc rc23 l1 l2 l3 l4 h11
  else
    some (0, h11)
set_option maxRecDepth 100000 in
theorem SXL_law_L382 {K : Ctx} {F : Nat} {hf : HP} (sl : Nat) (sc : Nat → Int) (Q : State → Prop) (nm : String) (hSc : ScK K sl sc) (hEnd : ∀ (pc : Nat) (lv : List (Nat × AV)), decode cL_law pc = .ok (.ireturn, 1) → Go K (ML_law nm) Q hf pc lv [vi 1] hf) (rc23 : Option Nat → Option Nat → Option Nat → Int → HP → Option (Int × HP)) (hrc23 : ∀ l1 l2 l3 l4 h, rc23 l1 l2 l3 l4 h = some (1, hf) → Go K (ML_law nm) Q hf 23 [(0, vr (some 4000000)), (1, vr l1), (2, vr l2), (3, vr l3), (4, vi l4)] [] h) (l1 : Option Nat) (l2 : Option Nat) (l3 : Option Nat) (l4 : Int)  (h : HP) (E : XL_law_L382 F sl sc rc23 l1 l2 l3 l4 h = some (1, hf)) : Go K (ML_law nm) Q hf 382 [(0, vr (some 4000000)), (1, vr l1), (2, vr l2), (3, vr l3), (4, vi l4)] [] h := by
  unfold XL_law_L382 at E
  refine go_aload_n (j := 1) (n := 383) rfl rfl dL_law_382 rfl ?_
  refine go_aload_n (j := 0) (n := 384) rfl rfl dL_law_383 rfl ?_
  refine go_iload (j := 4) (n := 386) rfl dL_law_384 rfl ?_
  refine go_iconst (z := 1) (n := 387) ⟨by decide, by decide⟩ dL_law_386 rfl ?_
  refine go_iadd (n := 388) dL_law_387 rfl ?_
  replace E := Option.bind_eq_some_iff.mp E; obtain ⟨v1, ev1, E⟩ := E
  refine go_sld (n := 389) hSc ev1 dL_law_388 rfl ?_
  refine go_aload_n (j := 0) (n := 390) rfl rfl dL_law_389 rfl ?_
  refine go_iload (j := 4) (n := 392) rfl dL_law_390 rfl ?_
  refine go_iconst (z := 2) (n := 393) ⟨by decide, by decide⟩ dL_law_392 rfl ?_
  refine go_iadd (n := 394) dL_law_393 rfl ?_
  replace E := Option.bind_eq_some_iff.mp E; obtain ⟨v2, ev2, E⟩ := E
  refine go_sld (n := 395) hSc ev2 dL_law_394 rfl ?_
  replace E := xb_some E; obtain ⟨v3, h4, ev3, E⟩ := E
  refine go_callSW (y := yL_old) (n := 398) (st := []) (as := [vr l1, vi v1, vi v2]) (stk9 := [vi v3]) (OXL_old ev3) yw_L_old wml_RL_150 wst_L_old (Nat.le_of_ble_eq_true rfl) rfl ⟨Nat.le_of_ble_eq_true rfl, Nat.le_of_ble_eq_true rfl⟩ (Nat.le_of_ble_eq_true rfl) dL_law_395 rfl rfl rfl ?_
  refine go_istore (n := 400) (lv' := [(5, vi v3), (0, vr (some 4000000)), (1, vr l1), (2, vr l2), (3, vr l3), (4, vi l4)]) dL_law_398 rfl (Nat.le_of_ble_eq_true rfl) rfl ?_
  refine go_aload_n (j := 3) (n := 401) rfl rfl dL_law_400 rfl ?_
  refine go_aload_n (j := 1) (n := 402) rfl rfl dL_law_401 rfl ?_
  refine go_iload (j := 5) (n := 404) rfl dL_law_402 rfl ?_
  refine go_iconst (z := 1) (n := 405) ⟨by decide, by decide⟩ dL_law_404 rfl ?_
  refine go_iadd (n := 406) dL_law_405 rfl ?_
  replace E := Option.bind_eq_some_iff.mp E; obtain ⟨v5, ev5, E⟩ := E
  refine go_sld (n := 407) hSc ev5 dL_law_406 rfl ?_
  refine go_aload_n (j := 1) (n := 408) rfl rfl dL_law_407 rfl ?_
  refine go_iload (j := 5) (n := 410) rfl dL_law_408 rfl ?_
  refine go_iconst (z := 2) (n := 411) ⟨by decide, by decide⟩ dL_law_410 rfl ?_
  refine go_iadd (n := 412) dL_law_411 rfl ?_
  replace E := Option.bind_eq_some_iff.mp E; obtain ⟨v6, ev6, E⟩ := E
  refine go_sld (n := 413) hSc ev6 dL_law_412 rfl ?_
  replace E := Option.bind_eq_some_iff.mp E; obtain ⟨a9, ea9, E⟩ := E
  obtain ⟨fa9, ga9⟩ := xrc_some ea9
  replace E := xb_some E; obtain ⟨v7, h8, ev7, E⟩ := E
  refine go_callV (y := yX12_old) (n := 416) (st := []) (as := [vi v5, vi v6]) (stk9 := []) (OX12_old ev7) yw_X12_old ci_12 ga9 wml_RL_152 wim_X12_old wse_X12_old (Nat.le_of_ble_eq_true rfl) rfl ⟨Nat.le_of_ble_eq_true rfl, Nat.le_of_ble_eq_true rfl⟩ (Nat.le_of_ble_eq_true rfl) dL_law_413 rfl (by cases fa9; rfl) rfl ?_
  refine go_aload_n (j := 3) (n := 417) rfl rfl dL_law_416 rfl ?_
  replace E := Option.bind_eq_some_iff.mp E; obtain ⟨a12, ea12, E⟩ := E
  obtain ⟨fa12, ga12⟩ := xrc_some ea12
  replace E := xb_some E; obtain ⟨v10, h11, ev10, E⟩ := E
  refine go_callV (y := yX12_thrown) (n := 420) (st := []) (as := []) (stk9 := [vi v10]) (OX12_thrown ev10) yw_X12_thrown ci_12 ga12 wml_RL_146 wim_X12_thrown wse_X12_thrown (Nat.le_of_ble_eq_true rfl) rfl ⟨Nat.le_of_ble_eq_true rfl, Nat.le_of_ble_eq_true rfl⟩ (Nat.le_of_ble_eq_true rfl) dL_law_417 rfl (by cases fa12; rfl) rfl ?_
  refine go_iload (j := 0) (n := 422) rfl dL_law_420 rfl ?_
  refine go_icmp_eq (tgt := 427) (n := 425) dL_law_422 rfl rfl (fun c13 => ?_) (fun c13 => ?_)
  · rw [if_pos c13] at E
    refine go_goto (tgt := 2868) dL_law_427 rfl ?_
    refine go_pick (lv' := [(0, vr (some 4000000)), (1, vr l1), (2, vr l2), (3, vr l3), (4, vi l4)]) [1, 2, 3, 4, 5] rfl ?_
    exact SXL_law_L2868 sl sc Q nm hSc hEnd _ hrc23 _ _ _ _  _ E
  · rw [if_neg c13] at E
    refine go_iconst (z := 0) (n := 426) ⟨by decide, by decide⟩ dL_law_425 rfl ?_
    exact absurd (Prod.mk.inj (Option.some.inj E)).1 (by decide)
noncomputable def XL_law_L507 (F : Nat) (sl : Nat) (sc : Nat → Int) (rc23 : Option Nat → Option Nat → Option Nat → Int → HP → Option (Int × HP)) (l1 : Option Nat) (l2 : Option Nat) (l3 : Option Nat) (l4 : Int)  (h : HP) : Option (Int × HP) :=
  XL_law_L2868 F sl sc rc23 l1 l2 l3 l4 h
set_option maxRecDepth 100000 in
theorem SXL_law_L507 {K : Ctx} {F : Nat} {hf : HP} (sl : Nat) (sc : Nat → Int) (Q : State → Prop) (nm : String) (hSc : ScK K sl sc) (hEnd : ∀ (pc : Nat) (lv : List (Nat × AV)), decode cL_law pc = .ok (.ireturn, 1) → Go K (ML_law nm) Q hf pc lv [vi 1] hf) (rc23 : Option Nat → Option Nat → Option Nat → Int → HP → Option (Int × HP)) (hrc23 : ∀ l1 l2 l3 l4 h, rc23 l1 l2 l3 l4 h = some (1, hf) → Go K (ML_law nm) Q hf 23 [(0, vr (some 4000000)), (1, vr l1), (2, vr l2), (3, vr l3), (4, vi l4)] [] h) (l1 : Option Nat) (l2 : Option Nat) (l3 : Option Nat) (l4 : Int)  (h : HP) (E : XL_law_L507 F sl sc rc23 l1 l2 l3 l4 h = some (1, hf)) : Go K (ML_law nm) Q hf 507 [(0, vr (some 4000000)), (1, vr l1), (2, vr l2), (3, vr l3), (4, vi l4)] [] h := by
  unfold XL_law_L507 at E
  refine go_goto (tgt := 2868) dL_law_507 rfl ?_
  exact SXL_law_L2868 sl sc Q nm hSc hEnd _ hrc23 _ _ _ _  _ E
noncomputable def XL_law_L430 (F : Nat) (sl : Nat) (sc : Nat → Int) (rc23 : Option Nat → Option Nat → Option Nat → Int → HP → Option (Int × HP)) (l1 : Option Nat) (l2 : Option Nat) (l3 : Option Nat) (l4 : Int)  (h : HP) : Option (Int × HP) :=
  (xsc sl sc (w32 (l4 + 1))).bind fun v1 =>
  (xsc sl sc (w32 (l4 + 2))).bind fun v2 =>
  (xsc sl sc (w32 (l4 + 3))).bind fun v3 =>
  xb (XL_ring F l1 v1 v2 v3 l3 h) fun v4 h5 =>
  (xsc sl sc (w32 (l4 + 1))).bind fun v6 =>
  (xsc sl sc (w32 (l4 + 2))).bind fun v7 =>
  (xsc sl sc (w32 (l4 + 3))).bind fun v8 =>
  (xrc h5 l2 12 31).bind fun a11 =>
  xb (X12_ring F a11 v6 v7 v8 h5) fun v9 h10 =>
  (xrc h10 l2 12 31).bind fun a14 =>
  xb (X12_thrown F a14 h10) fun v12 h13 =>
  if v12 = v4 then
    if v4 = 0 then
      (xaJ h13 l3 0).bind fun v17 =>
      if (xcmp v17 v9) = 0 then
        XL_law_L507 F sl sc rc23 l1 l2 l3 l4 h13
      else
        some (0, h13)
    else
      XL_law_L507 F sl sc rc23 l1 l2 l3 l4 h13
  else
    some (0, h13)
set_option maxRecDepth 100000 in
theorem SXL_law_L430 {K : Ctx} {F : Nat} {hf : HP} (sl : Nat) (sc : Nat → Int) (Q : State → Prop) (nm : String) (hSc : ScK K sl sc) (hEnd : ∀ (pc : Nat) (lv : List (Nat × AV)), decode cL_law pc = .ok (.ireturn, 1) → Go K (ML_law nm) Q hf pc lv [vi 1] hf) (rc23 : Option Nat → Option Nat → Option Nat → Int → HP → Option (Int × HP)) (hrc23 : ∀ l1 l2 l3 l4 h, rc23 l1 l2 l3 l4 h = some (1, hf) → Go K (ML_law nm) Q hf 23 [(0, vr (some 4000000)), (1, vr l1), (2, vr l2), (3, vr l3), (4, vi l4)] [] h) (l1 : Option Nat) (l2 : Option Nat) (l3 : Option Nat) (l4 : Int)  (h : HP) (E : XL_law_L430 F sl sc rc23 l1 l2 l3 l4 h = some (1, hf)) : Go K (ML_law nm) Q hf 430 [(0, vr (some 4000000)), (1, vr l1), (2, vr l2), (3, vr l3), (4, vi l4)] [] h := by
  unfold XL_law_L430 at E
  refine go_aload_n (j := 1) (n := 431) rfl rfl dL_law_430 rfl ?_
  refine go_aload_n (j := 0) (n := 432) rfl rfl dL_law_431 rfl ?_
  refine go_iload (j := 4) (n := 434) rfl dL_law_432 rfl ?_
  refine go_iconst (z := 1) (n := 435) ⟨by decide, by decide⟩ dL_law_434 rfl ?_
  refine go_iadd (n := 436) dL_law_435 rfl ?_
  replace E := Option.bind_eq_some_iff.mp E; obtain ⟨v1, ev1, E⟩ := E
  refine go_sld (n := 437) hSc ev1 dL_law_436 rfl ?_
  refine go_aload_n (j := 0) (n := 438) rfl rfl dL_law_437 rfl ?_
  refine go_iload (j := 4) (n := 440) rfl dL_law_438 rfl ?_
  refine go_iconst (z := 2) (n := 441) ⟨by decide, by decide⟩ dL_law_440 rfl ?_
  refine go_iadd (n := 442) dL_law_441 rfl ?_
  replace E := Option.bind_eq_some_iff.mp E; obtain ⟨v2, ev2, E⟩ := E
  refine go_sld (n := 443) hSc ev2 dL_law_442 rfl ?_
  refine go_aload_n (j := 0) (n := 444) rfl rfl dL_law_443 rfl ?_
  refine go_iload (j := 4) (n := 446) rfl dL_law_444 rfl ?_
  refine go_iconst (z := 3) (n := 447) ⟨by decide, by decide⟩ dL_law_446 rfl ?_
  refine go_iadd (n := 448) dL_law_447 rfl ?_
  replace E := Option.bind_eq_some_iff.mp E; obtain ⟨v3, ev3, E⟩ := E
  refine go_sld (n := 449) hSc ev3 dL_law_448 rfl ?_
  refine go_aload_n (j := 3) (n := 450) rfl rfl dL_law_449 rfl ?_
  replace E := xb_some E; obtain ⟨v4, h5, ev4, E⟩ := E
  refine go_callSW (y := yL_ring) (n := 453) (st := []) (as := [vr l1, vi v1, vi v2, vi v3, vr l3]) (stk9 := [vi v4]) (OXL_ring ev4) yw_L_ring wml_RL_153 wst_L_ring (Nat.le_of_ble_eq_true rfl) rfl ⟨Nat.le_of_ble_eq_true rfl, Nat.le_of_ble_eq_true rfl⟩ (Nat.le_of_ble_eq_true rfl) dL_law_450 rfl rfl rfl ?_
  refine go_istore (n := 455) (lv' := [(5, vi v4), (0, vr (some 4000000)), (1, vr l1), (2, vr l2), (3, vr l3), (4, vi l4)]) dL_law_453 rfl (Nat.le_of_ble_eq_true rfl) rfl ?_
  refine go_aload_n (j := 3) (n := 456) rfl rfl dL_law_455 rfl ?_
  refine go_aload_n (j := 1) (n := 457) rfl rfl dL_law_456 rfl ?_
  refine go_iload (j := 5) (n := 459) rfl dL_law_457 rfl ?_
  refine go_iconst (z := 1) (n := 460) ⟨by decide, by decide⟩ dL_law_459 rfl ?_
  refine go_iadd (n := 461) dL_law_460 rfl ?_
  replace E := Option.bind_eq_some_iff.mp E; obtain ⟨v6, ev6, E⟩ := E
  refine go_sld (n := 462) hSc ev6 dL_law_461 rfl ?_
  refine go_aload_n (j := 1) (n := 463) rfl rfl dL_law_462 rfl ?_
  refine go_iload (j := 5) (n := 465) rfl dL_law_463 rfl ?_
  refine go_iconst (z := 2) (n := 466) ⟨by decide, by decide⟩ dL_law_465 rfl ?_
  refine go_iadd (n := 467) dL_law_466 rfl ?_
  replace E := Option.bind_eq_some_iff.mp E; obtain ⟨v7, ev7, E⟩ := E
  refine go_sld (n := 468) hSc ev7 dL_law_467 rfl ?_
  refine go_aload_n (j := 1) (n := 469) rfl rfl dL_law_468 rfl ?_
  refine go_iload (j := 5) (n := 471) rfl dL_law_469 rfl ?_
  refine go_iconst (z := 3) (n := 472) ⟨by decide, by decide⟩ dL_law_471 rfl ?_
  refine go_iadd (n := 473) dL_law_472 rfl ?_
  replace E := Option.bind_eq_some_iff.mp E; obtain ⟨v8, ev8, E⟩ := E
  refine go_sld (n := 474) hSc ev8 dL_law_473 rfl ?_
  replace E := Option.bind_eq_some_iff.mp E; obtain ⟨a11, ea11, E⟩ := E
  obtain ⟨fa11, ga11⟩ := xrc_some ea11
  replace E := xb_some E; obtain ⟨v9, h10, ev9, E⟩ := E
  refine go_callV (y := yX12_ring) (n := 477) (st := []) (as := [vi v6, vi v7, vi v8]) (stk9 := [vi v9]) (OX12_ring ev9) yw_X12_ring ci_12 ga11 wml_RL_156 wim_X12_ring wse_X12_ring (Nat.le_of_ble_eq_true rfl) rfl ⟨Nat.le_of_ble_eq_true rfl, Nat.le_of_ble_eq_true rfl⟩ (Nat.le_of_ble_eq_true rfl) dL_law_474 rfl (by cases fa11; rfl) rfl ?_
  refine go_istore (n := 479) (lv' := [(6, vi v9), (5, vi v4), (0, vr (some 4000000)), (1, vr l1), (2, vr l2), (3, vr l3), (4, vi l4)]) dL_law_477 rfl (Nat.le_of_ble_eq_true rfl) rfl ?_
  refine go_aload_n (j := 4) (n := 480) rfl rfl dL_law_479 rfl ?_
  replace E := Option.bind_eq_some_iff.mp E; obtain ⟨a14, ea14, E⟩ := E
  obtain ⟨fa14, ga14⟩ := xrc_some ea14
  replace E := xb_some E; obtain ⟨v12, h13, ev12, E⟩ := E
  refine go_callV (y := yX12_thrown) (n := 483) (st := []) (as := []) (stk9 := [vi v12]) (OX12_thrown ev12) yw_X12_thrown ci_12 ga14 wml_RL_146 wim_X12_thrown wse_X12_thrown (Nat.le_of_ble_eq_true rfl) rfl ⟨Nat.le_of_ble_eq_true rfl, Nat.le_of_ble_eq_true rfl⟩ (Nat.le_of_ble_eq_true rfl) dL_law_480 rfl (by cases fa14; rfl) rfl ?_
  refine go_iload (j := 1) (n := 485) rfl dL_law_483 rfl ?_
  refine go_icmp_eq (tgt := 490) (n := 488) dL_law_485 rfl rfl (fun c15 => ?_) (fun c15 => ?_)
  · rw [if_pos c15] at E
    refine go_iload (j := 1) (n := 492) rfl dL_law_490 rfl ?_
    refine go_if_ne (tgt := 507) (n := 495) dL_law_492 rfl rfl (fun c16 => ?_) (fun c16 => ?_)
    · rw [if_neg c16] at E
      refine go_pick (lv' := [(0, vr (some 4000000)), (1, vr l1), (2, vr l2), (3, vr l3), (4, vi l4)]) [2, 3, 4, 5, 6] rfl ?_
      exact SXL_law_L507 sl sc Q nm hSc hEnd _ hrc23 _ _ _ _  _ E
    · rw [if_pos c16] at E
      refine go_aload_n (j := 5) (n := 496) rfl rfl dL_law_495 rfl ?_
      refine go_iconst (z := 0) (n := 497) ⟨by decide, by decide⟩ dL_law_496 rfl ?_
      replace E := Option.bind_eq_some_iff.mp E; obtain ⟨v17, ev17, E⟩ := E
      refine go_laload (n := 498) ev17 dL_law_497 rfl ?_
      refine go_iload (j := 0) (n := 500) rfl dL_law_498 rfl ?_
      refine go_i2l (n := 501) dL_law_500 rfl ?_
      refine go_lcmp (n := 502) dL_law_501 rfl ?_
      refine go_if_eq (tgt := 507) (n := 505) dL_law_502 rfl rfl (fun c18 => ?_) (fun c18 => ?_)
      · rw [if_pos c18] at E
        refine go_pick (lv' := [(0, vr (some 4000000)), (1, vr l1), (2, vr l2), (3, vr l3), (4, vi l4)]) [2, 3, 4, 5, 6] rfl ?_
        exact SXL_law_L507 sl sc Q nm hSc hEnd _ hrc23 _ _ _ _  _ E
      · rw [if_neg c18] at E
        refine go_iconst (z := 0) (n := 506) ⟨by decide, by decide⟩ dL_law_505 rfl ?_
        exact absurd (Prod.mk.inj (Option.some.inj E)).1 (by decide)
  · rw [if_neg c15] at E
    refine go_iconst (z := 0) (n := 489) ⟨by decide, by decide⟩ dL_law_488 rfl ?_
    exact absurd (Prod.mk.inj (Option.some.inj E)).1 (by decide)
noncomputable def XL_law_L575 (F : Nat) (sl : Nat) (sc : Nat → Int) (rc23 : Option Nat → Option Nat → Option Nat → Int → HP → Option (Int × HP)) (l1 : Option Nat) (l2 : Option Nat) (l3 : Option Nat) (l4 : Int)  (h : HP) : Option (Int × HP) :=
  XL_law_L2868 F sl sc rc23 l1 l2 l3 l4 h
set_option maxRecDepth 100000 in
theorem SXL_law_L575 {K : Ctx} {F : Nat} {hf : HP} (sl : Nat) (sc : Nat → Int) (Q : State → Prop) (nm : String) (hSc : ScK K sl sc) (hEnd : ∀ (pc : Nat) (lv : List (Nat × AV)), decode cL_law pc = .ok (.ireturn, 1) → Go K (ML_law nm) Q hf pc lv [vi 1] hf) (rc23 : Option Nat → Option Nat → Option Nat → Int → HP → Option (Int × HP)) (hrc23 : ∀ l1 l2 l3 l4 h, rc23 l1 l2 l3 l4 h = some (1, hf) → Go K (ML_law nm) Q hf 23 [(0, vr (some 4000000)), (1, vr l1), (2, vr l2), (3, vr l3), (4, vi l4)] [] h) (l1 : Option Nat) (l2 : Option Nat) (l3 : Option Nat) (l4 : Int)  (h : HP) (E : XL_law_L575 F sl sc rc23 l1 l2 l3 l4 h = some (1, hf)) : Go K (ML_law nm) Q hf 575 [(0, vr (some 4000000)), (1, vr l1), (2, vr l2), (3, vr l3), (4, vi l4)] [] h := by
  unfold XL_law_L575 at E
  refine go_goto (tgt := 2868) dL_law_575 rfl ?_
  exact SXL_law_L2868 sl sc Q nm hSc hEnd _ hrc23 _ _ _ _  _ E
noncomputable def XL_law_L510 (F : Nat) (sl : Nat) (sc : Nat → Int) (rc23 : Option Nat → Option Nat → Option Nat → Int → HP → Option (Int × HP)) (l1 : Option Nat) (l2 : Option Nat) (l3 : Option Nat) (l4 : Int)  (h : HP) : Option (Int × HP) :=
  (xsc sl sc (w32 (l4 + 1))).bind fun v1 =>
  (xsc sl sc (w32 (l4 + 2))).bind fun v2 =>
  xb (XL_tell F l1 v1 v2 l3 h) fun v3 h4 =>
  (xsc sl sc (w32 (l4 + 1))).bind fun v5 =>
  (xsc sl sc (w32 (l4 + 2))).bind fun v6 =>
  (xrc h4 l2 12 31).bind fun a9 =>
  xb (X12_tell F a9 v5 v6 h4) fun v7 h8 =>
  (xrc h8 l2 12 31).bind fun a12 =>
  xb (X12_thrown F a12 h8) fun v10 h11 =>
  if v10 = v3 then
    if v3 = 0 then
      (xaJ h11 l3 0).bind fun v15 =>
      if (xcmp v15 v7) = 0 then
        XL_law_L575 F sl sc rc23 l1 l2 l3 l4 h11
      else
        some (0, h11)
    else
      XL_law_L575 F sl sc rc23 l1 l2 l3 l4 h11
  else
    some (0, h11)
set_option maxRecDepth 100000 in
theorem SXL_law_L510 {K : Ctx} {F : Nat} {hf : HP} (sl : Nat) (sc : Nat → Int) (Q : State → Prop) (nm : String) (hSc : ScK K sl sc) (hEnd : ∀ (pc : Nat) (lv : List (Nat × AV)), decode cL_law pc = .ok (.ireturn, 1) → Go K (ML_law nm) Q hf pc lv [vi 1] hf) (rc23 : Option Nat → Option Nat → Option Nat → Int → HP → Option (Int × HP)) (hrc23 : ∀ l1 l2 l3 l4 h, rc23 l1 l2 l3 l4 h = some (1, hf) → Go K (ML_law nm) Q hf 23 [(0, vr (some 4000000)), (1, vr l1), (2, vr l2), (3, vr l3), (4, vi l4)] [] h) (l1 : Option Nat) (l2 : Option Nat) (l3 : Option Nat) (l4 : Int)  (h : HP) (E : XL_law_L510 F sl sc rc23 l1 l2 l3 l4 h = some (1, hf)) : Go K (ML_law nm) Q hf 510 [(0, vr (some 4000000)), (1, vr l1), (2, vr l2), (3, vr l3), (4, vi l4)] [] h := by
  unfold XL_law_L510 at E
  refine go_aload_n (j := 1) (n := 511) rfl rfl dL_law_510 rfl ?_
  refine go_aload_n (j := 0) (n := 512) rfl rfl dL_law_511 rfl ?_
  refine go_iload (j := 4) (n := 514) rfl dL_law_512 rfl ?_
  refine go_iconst (z := 1) (n := 515) ⟨by decide, by decide⟩ dL_law_514 rfl ?_
  refine go_iadd (n := 516) dL_law_515 rfl ?_
  replace E := Option.bind_eq_some_iff.mp E; obtain ⟨v1, ev1, E⟩ := E
  refine go_sld (n := 517) hSc ev1 dL_law_516 rfl ?_
  refine go_aload_n (j := 0) (n := 518) rfl rfl dL_law_517 rfl ?_
  refine go_iload (j := 4) (n := 520) rfl dL_law_518 rfl ?_
  refine go_iconst (z := 2) (n := 521) ⟨by decide, by decide⟩ dL_law_520 rfl ?_
  refine go_iadd (n := 522) dL_law_521 rfl ?_
  replace E := Option.bind_eq_some_iff.mp E; obtain ⟨v2, ev2, E⟩ := E
  refine go_sld (n := 523) hSc ev2 dL_law_522 rfl ?_
  refine go_aload_n (j := 3) (n := 524) rfl rfl dL_law_523 rfl ?_
  replace E := xb_some E; obtain ⟨v3, h4, ev3, E⟩ := E
  refine go_callSW (y := yL_tell) (n := 527) (st := []) (as := [vr l1, vi v1, vi v2, vr l3]) (stk9 := [vi v3]) (OXL_tell ev3) yw_L_tell wml_RL_157 wst_L_tell (Nat.le_of_ble_eq_true rfl) rfl ⟨Nat.le_of_ble_eq_true rfl, Nat.le_of_ble_eq_true rfl⟩ (Nat.le_of_ble_eq_true rfl) dL_law_524 rfl rfl rfl ?_
  refine go_istore (n := 529) (lv' := [(5, vi v3), (0, vr (some 4000000)), (1, vr l1), (2, vr l2), (3, vr l3), (4, vi l4)]) dL_law_527 rfl (Nat.le_of_ble_eq_true rfl) rfl ?_
  refine go_aload_n (j := 3) (n := 530) rfl rfl dL_law_529 rfl ?_
  refine go_aload_n (j := 1) (n := 531) rfl rfl dL_law_530 rfl ?_
  refine go_iload (j := 5) (n := 533) rfl dL_law_531 rfl ?_
  refine go_iconst (z := 1) (n := 534) ⟨by decide, by decide⟩ dL_law_533 rfl ?_
  refine go_iadd (n := 535) dL_law_534 rfl ?_
  replace E := Option.bind_eq_some_iff.mp E; obtain ⟨v5, ev5, E⟩ := E
  refine go_sld (n := 536) hSc ev5 dL_law_535 rfl ?_
  refine go_aload_n (j := 1) (n := 537) rfl rfl dL_law_536 rfl ?_
  refine go_iload (j := 5) (n := 539) rfl dL_law_537 rfl ?_
  refine go_iconst (z := 2) (n := 540) ⟨by decide, by decide⟩ dL_law_539 rfl ?_
  refine go_iadd (n := 541) dL_law_540 rfl ?_
  replace E := Option.bind_eq_some_iff.mp E; obtain ⟨v6, ev6, E⟩ := E
  refine go_sld (n := 542) hSc ev6 dL_law_541 rfl ?_
  replace E := Option.bind_eq_some_iff.mp E; obtain ⟨a9, ea9, E⟩ := E
  obtain ⟨fa9, ga9⟩ := xrc_some ea9
  replace E := xb_some E; obtain ⟨v7, h8, ev7, E⟩ := E
  refine go_callV (y := yX12_tell) (n := 545) (st := []) (as := [vi v5, vi v6]) (stk9 := [vi v7]) (OX12_tell ev7) yw_X12_tell ci_12 ga9 wml_RL_160 wim_X12_tell wse_X12_tell (Nat.le_of_ble_eq_true rfl) rfl ⟨Nat.le_of_ble_eq_true rfl, Nat.le_of_ble_eq_true rfl⟩ (Nat.le_of_ble_eq_true rfl) dL_law_542 rfl (by cases fa9; rfl) rfl ?_
  refine go_istore (n := 547) (lv' := [(6, vi v7), (5, vi v3), (0, vr (some 4000000)), (1, vr l1), (2, vr l2), (3, vr l3), (4, vi l4)]) dL_law_545 rfl (Nat.le_of_ble_eq_true rfl) rfl ?_
  refine go_aload_n (j := 4) (n := 548) rfl rfl dL_law_547 rfl ?_
  replace E := Option.bind_eq_some_iff.mp E; obtain ⟨a12, ea12, E⟩ := E
  obtain ⟨fa12, ga12⟩ := xrc_some ea12
  replace E := xb_some E; obtain ⟨v10, h11, ev10, E⟩ := E
  refine go_callV (y := yX12_thrown) (n := 551) (st := []) (as := []) (stk9 := [vi v10]) (OX12_thrown ev10) yw_X12_thrown ci_12 ga12 wml_RL_146 wim_X12_thrown wse_X12_thrown (Nat.le_of_ble_eq_true rfl) rfl ⟨Nat.le_of_ble_eq_true rfl, Nat.le_of_ble_eq_true rfl⟩ (Nat.le_of_ble_eq_true rfl) dL_law_548 rfl (by cases fa12; rfl) rfl ?_
  refine go_iload (j := 1) (n := 553) rfl dL_law_551 rfl ?_
  refine go_icmp_eq (tgt := 558) (n := 556) dL_law_553 rfl rfl (fun c13 => ?_) (fun c13 => ?_)
  · rw [if_pos c13] at E
    refine go_iload (j := 1) (n := 560) rfl dL_law_558 rfl ?_
    refine go_if_ne (tgt := 575) (n := 563) dL_law_560 rfl rfl (fun c14 => ?_) (fun c14 => ?_)
    · rw [if_neg c14] at E
      refine go_pick (lv' := [(0, vr (some 4000000)), (1, vr l1), (2, vr l2), (3, vr l3), (4, vi l4)]) [2, 3, 4, 5, 6] rfl ?_
      exact SXL_law_L575 sl sc Q nm hSc hEnd _ hrc23 _ _ _ _  _ E
    · rw [if_pos c14] at E
      refine go_aload_n (j := 5) (n := 564) rfl rfl dL_law_563 rfl ?_
      refine go_iconst (z := 0) (n := 565) ⟨by decide, by decide⟩ dL_law_564 rfl ?_
      replace E := Option.bind_eq_some_iff.mp E; obtain ⟨v15, ev15, E⟩ := E
      refine go_laload (n := 566) ev15 dL_law_565 rfl ?_
      refine go_iload (j := 0) (n := 568) rfl dL_law_566 rfl ?_
      refine go_i2l (n := 569) dL_law_568 rfl ?_
      refine go_lcmp (n := 570) dL_law_569 rfl ?_
      refine go_if_eq (tgt := 575) (n := 573) dL_law_570 rfl rfl (fun c16 => ?_) (fun c16 => ?_)
      · rw [if_pos c16] at E
        refine go_pick (lv' := [(0, vr (some 4000000)), (1, vr l1), (2, vr l2), (3, vr l3), (4, vi l4)]) [2, 3, 4, 5, 6] rfl ?_
        exact SXL_law_L575 sl sc Q nm hSc hEnd _ hrc23 _ _ _ _  _ E
      · rw [if_neg c16] at E
        refine go_iconst (z := 0) (n := 574) ⟨by decide, by decide⟩ dL_law_573 rfl ?_
        exact absurd (Prod.mk.inj (Option.some.inj E)).1 (by decide)
  · rw [if_neg c13] at E
    refine go_iconst (z := 0) (n := 557) ⟨by decide, by decide⟩ dL_law_556 rfl ?_
    exact absurd (Prod.mk.inj (Option.some.inj E)).1 (by decide)
noncomputable def XL_law_L631 (F : Nat) (sl : Nat) (sc : Nat → Int) (rc23 : Option Nat → Option Nat → Option Nat → Int → HP → Option (Int × HP)) (l1 : Option Nat) (l2 : Option Nat) (l3 : Option Nat) (l4 : Int)  (h : HP) : Option (Int × HP) :=
  XL_law_L2868 F sl sc rc23 l1 l2 l3 l4 h
set_option maxRecDepth 100000 in
theorem SXL_law_L631 {K : Ctx} {F : Nat} {hf : HP} (sl : Nat) (sc : Nat → Int) (Q : State → Prop) (nm : String) (hSc : ScK K sl sc) (hEnd : ∀ (pc : Nat) (lv : List (Nat × AV)), decode cL_law pc = .ok (.ireturn, 1) → Go K (ML_law nm) Q hf pc lv [vi 1] hf) (rc23 : Option Nat → Option Nat → Option Nat → Int → HP → Option (Int × HP)) (hrc23 : ∀ l1 l2 l3 l4 h, rc23 l1 l2 l3 l4 h = some (1, hf) → Go K (ML_law nm) Q hf 23 [(0, vr (some 4000000)), (1, vr l1), (2, vr l2), (3, vr l3), (4, vi l4)] [] h) (l1 : Option Nat) (l2 : Option Nat) (l3 : Option Nat) (l4 : Int)  (h : HP) (E : XL_law_L631 F sl sc rc23 l1 l2 l3 l4 h = some (1, hf)) : Go K (ML_law nm) Q hf 631 [(0, vr (some 4000000)), (1, vr l1), (2, vr l2), (3, vr l3), (4, vi l4)] [] h := by
  unfold XL_law_L631 at E
  refine go_goto (tgt := 2868) dL_law_631 rfl ?_
  exact SXL_law_L2868 sl sc Q nm hSc hEnd _ hrc23 _ _ _ _  _ E
noncomputable def XL_law_L578 (F : Nat) (sl : Nat) (sc : Nat → Int) (rc23 : Option Nat → Option Nat → Option Nat → Int → HP → Option (Int × HP)) (l1 : Option Nat) (l2 : Option Nat) (l3 : Option Nat) (l4 : Int)  (h : HP) : Option (Int × HP) :=
  (xsc sl sc (w32 (l4 + 1))).bind fun v1 =>
  xb (XL_word F l1 v1 l3 h) fun v2 h3 =>
  (xsc sl sc (w32 (l4 + 1))).bind fun v4 =>
  (xrc h3 l2 12 31).bind fun a7 =>
  xb (X12_word F a7 v4 h3) fun v5 h6 =>
  (xrc h6 l2 12 31).bind fun a10 =>
  xb (X12_thrown F a10 h6) fun v8 h9 =>
  if v8 = v2 then
    if v2 = 0 then
      (xaJ h9 l3 0).bind fun v13 =>
      if (xcmp v13 v5) = 0 then
        XL_law_L631 F sl sc rc23 l1 l2 l3 l4 h9
      else
        some (0, h9)
    else
      XL_law_L631 F sl sc rc23 l1 l2 l3 l4 h9
  else
    some (0, h9)
set_option maxRecDepth 100000 in
theorem SXL_law_L578 {K : Ctx} {F : Nat} {hf : HP} (sl : Nat) (sc : Nat → Int) (Q : State → Prop) (nm : String) (hSc : ScK K sl sc) (hEnd : ∀ (pc : Nat) (lv : List (Nat × AV)), decode cL_law pc = .ok (.ireturn, 1) → Go K (ML_law nm) Q hf pc lv [vi 1] hf) (rc23 : Option Nat → Option Nat → Option Nat → Int → HP → Option (Int × HP)) (hrc23 : ∀ l1 l2 l3 l4 h, rc23 l1 l2 l3 l4 h = some (1, hf) → Go K (ML_law nm) Q hf 23 [(0, vr (some 4000000)), (1, vr l1), (2, vr l2), (3, vr l3), (4, vi l4)] [] h) (l1 : Option Nat) (l2 : Option Nat) (l3 : Option Nat) (l4 : Int)  (h : HP) (E : XL_law_L578 F sl sc rc23 l1 l2 l3 l4 h = some (1, hf)) : Go K (ML_law nm) Q hf 578 [(0, vr (some 4000000)), (1, vr l1), (2, vr l2), (3, vr l3), (4, vi l4)] [] h := by
  unfold XL_law_L578 at E
  refine go_aload_n (j := 1) (n := 579) rfl rfl dL_law_578 rfl ?_
  refine go_aload_n (j := 0) (n := 580) rfl rfl dL_law_579 rfl ?_
  refine go_iload (j := 4) (n := 582) rfl dL_law_580 rfl ?_
  refine go_iconst (z := 1) (n := 583) ⟨by decide, by decide⟩ dL_law_582 rfl ?_
  refine go_iadd (n := 584) dL_law_583 rfl ?_
  replace E := Option.bind_eq_some_iff.mp E; obtain ⟨v1, ev1, E⟩ := E
  refine go_sld (n := 585) hSc ev1 dL_law_584 rfl ?_
  refine go_aload_n (j := 3) (n := 586) rfl rfl dL_law_585 rfl ?_
  replace E := xb_some E; obtain ⟨v2, h3, ev2, E⟩ := E
  refine go_callSW (y := yL_word) (n := 589) (st := []) (as := [vr l1, vi v1, vr l3]) (stk9 := [vi v2]) (OXL_word ev2) yw_L_word wml_RL_161 wst_L_word (Nat.le_of_ble_eq_true rfl) rfl ⟨Nat.le_of_ble_eq_true rfl, Nat.le_of_ble_eq_true rfl⟩ (Nat.le_of_ble_eq_true rfl) dL_law_586 rfl rfl rfl ?_
  refine go_istore (n := 591) (lv' := [(5, vi v2), (0, vr (some 4000000)), (1, vr l1), (2, vr l2), (3, vr l3), (4, vi l4)]) dL_law_589 rfl (Nat.le_of_ble_eq_true rfl) rfl ?_
  refine go_aload_n (j := 3) (n := 592) rfl rfl dL_law_591 rfl ?_
  refine go_aload_n (j := 1) (n := 593) rfl rfl dL_law_592 rfl ?_
  refine go_iload (j := 5) (n := 595) rfl dL_law_593 rfl ?_
  refine go_iconst (z := 1) (n := 596) ⟨by decide, by decide⟩ dL_law_595 rfl ?_
  refine go_iadd (n := 597) dL_law_596 rfl ?_
  replace E := Option.bind_eq_some_iff.mp E; obtain ⟨v4, ev4, E⟩ := E
  refine go_sld (n := 598) hSc ev4 dL_law_597 rfl ?_
  replace E := Option.bind_eq_some_iff.mp E; obtain ⟨a7, ea7, E⟩ := E
  obtain ⟨fa7, ga7⟩ := xrc_some ea7
  replace E := xb_some E; obtain ⟨v5, h6, ev5, E⟩ := E
  refine go_callV (y := yX12_word) (n := 601) (st := []) (as := [vi v4]) (stk9 := [vi v5]) (OX12_word ev5) yw_X12_word ci_12 ga7 wml_RL_164 wim_X12_word wse_X12_word (Nat.le_of_ble_eq_true rfl) rfl ⟨Nat.le_of_ble_eq_true rfl, Nat.le_of_ble_eq_true rfl⟩ (Nat.le_of_ble_eq_true rfl) dL_law_598 rfl (by cases fa7; rfl) rfl ?_
  refine go_istore (n := 603) (lv' := [(6, vi v5), (5, vi v2), (0, vr (some 4000000)), (1, vr l1), (2, vr l2), (3, vr l3), (4, vi l4)]) dL_law_601 rfl (Nat.le_of_ble_eq_true rfl) rfl ?_
  refine go_aload_n (j := 4) (n := 604) rfl rfl dL_law_603 rfl ?_
  replace E := Option.bind_eq_some_iff.mp E; obtain ⟨a10, ea10, E⟩ := E
  obtain ⟨fa10, ga10⟩ := xrc_some ea10
  replace E := xb_some E; obtain ⟨v8, h9, ev8, E⟩ := E
  refine go_callV (y := yX12_thrown) (n := 607) (st := []) (as := []) (stk9 := [vi v8]) (OX12_thrown ev8) yw_X12_thrown ci_12 ga10 wml_RL_146 wim_X12_thrown wse_X12_thrown (Nat.le_of_ble_eq_true rfl) rfl ⟨Nat.le_of_ble_eq_true rfl, Nat.le_of_ble_eq_true rfl⟩ (Nat.le_of_ble_eq_true rfl) dL_law_604 rfl (by cases fa10; rfl) rfl ?_
  refine go_iload (j := 1) (n := 609) rfl dL_law_607 rfl ?_
  refine go_icmp_eq (tgt := 614) (n := 612) dL_law_609 rfl rfl (fun c11 => ?_) (fun c11 => ?_)
  · rw [if_pos c11] at E
    refine go_iload (j := 1) (n := 616) rfl dL_law_614 rfl ?_
    refine go_if_ne (tgt := 631) (n := 619) dL_law_616 rfl rfl (fun c12 => ?_) (fun c12 => ?_)
    · rw [if_neg c12] at E
      refine go_pick (lv' := [(0, vr (some 4000000)), (1, vr l1), (2, vr l2), (3, vr l3), (4, vi l4)]) [2, 3, 4, 5, 6] rfl ?_
      exact SXL_law_L631 sl sc Q nm hSc hEnd _ hrc23 _ _ _ _  _ E
    · rw [if_pos c12] at E
      refine go_aload_n (j := 5) (n := 620) rfl rfl dL_law_619 rfl ?_
      refine go_iconst (z := 0) (n := 621) ⟨by decide, by decide⟩ dL_law_620 rfl ?_
      replace E := Option.bind_eq_some_iff.mp E; obtain ⟨v13, ev13, E⟩ := E
      refine go_laload (n := 622) ev13 dL_law_621 rfl ?_
      refine go_iload (j := 0) (n := 624) rfl dL_law_622 rfl ?_
      refine go_i2l (n := 625) dL_law_624 rfl ?_
      refine go_lcmp (n := 626) dL_law_625 rfl ?_
      refine go_if_eq (tgt := 631) (n := 629) dL_law_626 rfl rfl (fun c14 => ?_) (fun c14 => ?_)
      · rw [if_pos c14] at E
        refine go_pick (lv' := [(0, vr (some 4000000)), (1, vr l1), (2, vr l2), (3, vr l3), (4, vi l4)]) [2, 3, 4, 5, 6] rfl ?_
        exact SXL_law_L631 sl sc Q nm hSc hEnd _ hrc23 _ _ _ _  _ E
      · rw [if_neg c14] at E
        refine go_iconst (z := 0) (n := 630) ⟨by decide, by decide⟩ dL_law_629 rfl ?_
        exact absurd (Prod.mk.inj (Option.some.inj E)).1 (by decide)
  · rw [if_neg c11] at E
    refine go_iconst (z := 0) (n := 613) ⟨by decide, by decide⟩ dL_law_612 rfl ?_
    exact absurd (Prod.mk.inj (Option.some.inj E)).1 (by decide)
noncomputable def XL_law_L699 (F : Nat) (sl : Nat) (sc : Nat → Int) (rc23 : Option Nat → Option Nat → Option Nat → Int → HP → Option (Int × HP)) (l1 : Option Nat) (l2 : Option Nat) (l3 : Option Nat) (l4 : Int)  (h : HP) : Option (Int × HP) :=
  XL_law_L2868 F sl sc rc23 l1 l2 l3 l4 h
set_option maxRecDepth 100000 in
theorem SXL_law_L699 {K : Ctx} {F : Nat} {hf : HP} (sl : Nat) (sc : Nat → Int) (Q : State → Prop) (nm : String) (hSc : ScK K sl sc) (hEnd : ∀ (pc : Nat) (lv : List (Nat × AV)), decode cL_law pc = .ok (.ireturn, 1) → Go K (ML_law nm) Q hf pc lv [vi 1] hf) (rc23 : Option Nat → Option Nat → Option Nat → Int → HP → Option (Int × HP)) (hrc23 : ∀ l1 l2 l3 l4 h, rc23 l1 l2 l3 l4 h = some (1, hf) → Go K (ML_law nm) Q hf 23 [(0, vr (some 4000000)), (1, vr l1), (2, vr l2), (3, vr l3), (4, vi l4)] [] h) (l1 : Option Nat) (l2 : Option Nat) (l3 : Option Nat) (l4 : Int)  (h : HP) (E : XL_law_L699 F sl sc rc23 l1 l2 l3 l4 h = some (1, hf)) : Go K (ML_law nm) Q hf 699 [(0, vr (some 4000000)), (1, vr l1), (2, vr l2), (3, vr l3), (4, vi l4)] [] h := by
  unfold XL_law_L699 at E
  refine go_goto (tgt := 2868) dL_law_699 rfl ?_
  exact SXL_law_L2868 sl sc Q nm hSc hEnd _ hrc23 _ _ _ _  _ E
noncomputable def XL_law_L634 (F : Nat) (sl : Nat) (sc : Nat → Int) (rc23 : Option Nat → Option Nat → Option Nat → Int → HP → Option (Int × HP)) (l1 : Option Nat) (l2 : Option Nat) (l3 : Option Nat) (l4 : Int)  (h : HP) : Option (Int × HP) :=
  (xsc sl sc (w32 (l4 + 1))).bind fun v1 =>
  (xsc sl sc (w32 (l4 + 2))).bind fun v2 =>
  xb (XL_as F l1 v1 v2 l3 h) fun v3 h4 =>
  (xsc sl sc (w32 (l4 + 1))).bind fun v5 =>
  (xsc sl sc (w32 (l4 + 2))).bind fun v6 =>
  (xrc h4 l2 12 31).bind fun a9 =>
  xb (X12_as F a9 v5 v6 h4) fun v7 h8 =>
  (xrc h8 l2 12 31).bind fun a12 =>
  xb (X12_thrown F a12 h8) fun v10 h11 =>
  if v10 = v3 then
    if v3 = 0 then
      (xaJ h11 l3 0).bind fun v15 =>
      if (xcmp v15 v7) = 0 then
        XL_law_L699 F sl sc rc23 l1 l2 l3 l4 h11
      else
        some (0, h11)
    else
      XL_law_L699 F sl sc rc23 l1 l2 l3 l4 h11
  else
    some (0, h11)
set_option maxRecDepth 100000 in
theorem SXL_law_L634 {K : Ctx} {F : Nat} {hf : HP} (sl : Nat) (sc : Nat → Int) (Q : State → Prop) (nm : String) (hSc : ScK K sl sc) (hEnd : ∀ (pc : Nat) (lv : List (Nat × AV)), decode cL_law pc = .ok (.ireturn, 1) → Go K (ML_law nm) Q hf pc lv [vi 1] hf) (rc23 : Option Nat → Option Nat → Option Nat → Int → HP → Option (Int × HP)) (hrc23 : ∀ l1 l2 l3 l4 h, rc23 l1 l2 l3 l4 h = some (1, hf) → Go K (ML_law nm) Q hf 23 [(0, vr (some 4000000)), (1, vr l1), (2, vr l2), (3, vr l3), (4, vi l4)] [] h) (l1 : Option Nat) (l2 : Option Nat) (l3 : Option Nat) (l4 : Int)  (h : HP) (E : XL_law_L634 F sl sc rc23 l1 l2 l3 l4 h = some (1, hf)) : Go K (ML_law nm) Q hf 634 [(0, vr (some 4000000)), (1, vr l1), (2, vr l2), (3, vr l3), (4, vi l4)] [] h := by
  unfold XL_law_L634 at E
  refine go_aload_n (j := 1) (n := 635) rfl rfl dL_law_634 rfl ?_
  refine go_aload_n (j := 0) (n := 636) rfl rfl dL_law_635 rfl ?_
  refine go_iload (j := 4) (n := 638) rfl dL_law_636 rfl ?_
  refine go_iconst (z := 1) (n := 639) ⟨by decide, by decide⟩ dL_law_638 rfl ?_
  refine go_iadd (n := 640) dL_law_639 rfl ?_
  replace E := Option.bind_eq_some_iff.mp E; obtain ⟨v1, ev1, E⟩ := E
  refine go_sld (n := 641) hSc ev1 dL_law_640 rfl ?_
  refine go_aload_n (j := 0) (n := 642) rfl rfl dL_law_641 rfl ?_
  refine go_iload (j := 4) (n := 644) rfl dL_law_642 rfl ?_
  refine go_iconst (z := 2) (n := 645) ⟨by decide, by decide⟩ dL_law_644 rfl ?_
  refine go_iadd (n := 646) dL_law_645 rfl ?_
  replace E := Option.bind_eq_some_iff.mp E; obtain ⟨v2, ev2, E⟩ := E
  refine go_sld (n := 647) hSc ev2 dL_law_646 rfl ?_
  refine go_aload_n (j := 3) (n := 648) rfl rfl dL_law_647 rfl ?_
  replace E := xb_some E; obtain ⟨v3, h4, ev3, E⟩ := E
  refine go_callSW (y := yL_as) (n := 651) (st := []) (as := [vr l1, vi v1, vi v2, vr l3]) (stk9 := [vi v3]) (OXL_as ev3) yw_L_as wml_RL_165 wst_L_as (Nat.le_of_ble_eq_true rfl) rfl ⟨Nat.le_of_ble_eq_true rfl, Nat.le_of_ble_eq_true rfl⟩ (Nat.le_of_ble_eq_true rfl) dL_law_648 rfl rfl rfl ?_
  refine go_istore (n := 653) (lv' := [(5, vi v3), (0, vr (some 4000000)), (1, vr l1), (2, vr l2), (3, vr l3), (4, vi l4)]) dL_law_651 rfl (Nat.le_of_ble_eq_true rfl) rfl ?_
  refine go_aload_n (j := 3) (n := 654) rfl rfl dL_law_653 rfl ?_
  refine go_aload_n (j := 1) (n := 655) rfl rfl dL_law_654 rfl ?_
  refine go_iload (j := 5) (n := 657) rfl dL_law_655 rfl ?_
  refine go_iconst (z := 1) (n := 658) ⟨by decide, by decide⟩ dL_law_657 rfl ?_
  refine go_iadd (n := 659) dL_law_658 rfl ?_
  replace E := Option.bind_eq_some_iff.mp E; obtain ⟨v5, ev5, E⟩ := E
  refine go_sld (n := 660) hSc ev5 dL_law_659 rfl ?_
  refine go_aload_n (j := 1) (n := 661) rfl rfl dL_law_660 rfl ?_
  refine go_iload (j := 5) (n := 663) rfl dL_law_661 rfl ?_
  refine go_iconst (z := 2) (n := 664) ⟨by decide, by decide⟩ dL_law_663 rfl ?_
  refine go_iadd (n := 665) dL_law_664 rfl ?_
  replace E := Option.bind_eq_some_iff.mp E; obtain ⟨v6, ev6, E⟩ := E
  refine go_sld (n := 666) hSc ev6 dL_law_665 rfl ?_
  replace E := Option.bind_eq_some_iff.mp E; obtain ⟨a9, ea9, E⟩ := E
  obtain ⟨fa9, ga9⟩ := xrc_some ea9
  replace E := xb_some E; obtain ⟨v7, h8, ev7, E⟩ := E
  refine go_callV (y := yX12_as) (n := 669) (st := []) (as := [vi v5, vi v6]) (stk9 := [vi v7]) (OX12_as ev7) yw_X12_as ci_12 ga9 wml_RL_167 wim_X12_as wse_X12_as (Nat.le_of_ble_eq_true rfl) rfl ⟨Nat.le_of_ble_eq_true rfl, Nat.le_of_ble_eq_true rfl⟩ (Nat.le_of_ble_eq_true rfl) dL_law_666 rfl (by cases fa9; rfl) rfl ?_
  refine go_istore (n := 671) (lv' := [(6, vi v7), (5, vi v3), (0, vr (some 4000000)), (1, vr l1), (2, vr l2), (3, vr l3), (4, vi l4)]) dL_law_669 rfl (Nat.le_of_ble_eq_true rfl) rfl ?_
  refine go_aload_n (j := 4) (n := 672) rfl rfl dL_law_671 rfl ?_
  replace E := Option.bind_eq_some_iff.mp E; obtain ⟨a12, ea12, E⟩ := E
  obtain ⟨fa12, ga12⟩ := xrc_some ea12
  replace E := xb_some E; obtain ⟨v10, h11, ev10, E⟩ := E
  refine go_callV (y := yX12_thrown) (n := 675) (st := []) (as := []) (stk9 := [vi v10]) (OX12_thrown ev10) yw_X12_thrown ci_12 ga12 wml_RL_146 wim_X12_thrown wse_X12_thrown (Nat.le_of_ble_eq_true rfl) rfl ⟨Nat.le_of_ble_eq_true rfl, Nat.le_of_ble_eq_true rfl⟩ (Nat.le_of_ble_eq_true rfl) dL_law_672 rfl (by cases fa12; rfl) rfl ?_
  refine go_iload (j := 1) (n := 677) rfl dL_law_675 rfl ?_
  refine go_icmp_eq (tgt := 682) (n := 680) dL_law_677 rfl rfl (fun c13 => ?_) (fun c13 => ?_)
  · rw [if_pos c13] at E
    refine go_iload (j := 1) (n := 684) rfl dL_law_682 rfl ?_
    refine go_if_ne (tgt := 699) (n := 687) dL_law_684 rfl rfl (fun c14 => ?_) (fun c14 => ?_)
    · rw [if_neg c14] at E
      refine go_pick (lv' := [(0, vr (some 4000000)), (1, vr l1), (2, vr l2), (3, vr l3), (4, vi l4)]) [2, 3, 4, 5, 6] rfl ?_
      exact SXL_law_L699 sl sc Q nm hSc hEnd _ hrc23 _ _ _ _  _ E
    · rw [if_pos c14] at E
      refine go_aload_n (j := 5) (n := 688) rfl rfl dL_law_687 rfl ?_
      refine go_iconst (z := 0) (n := 689) ⟨by decide, by decide⟩ dL_law_688 rfl ?_
      replace E := Option.bind_eq_some_iff.mp E; obtain ⟨v15, ev15, E⟩ := E
      refine go_laload (n := 690) ev15 dL_law_689 rfl ?_
      refine go_iload (j := 0) (n := 692) rfl dL_law_690 rfl ?_
      refine go_i2l (n := 693) dL_law_692 rfl ?_
      refine go_lcmp (n := 694) dL_law_693 rfl ?_
      refine go_if_eq (tgt := 699) (n := 697) dL_law_694 rfl rfl (fun c16 => ?_) (fun c16 => ?_)
      · rw [if_pos c16] at E
        refine go_pick (lv' := [(0, vr (some 4000000)), (1, vr l1), (2, vr l2), (3, vr l3), (4, vi l4)]) [2, 3, 4, 5, 6] rfl ?_
        exact SXL_law_L699 sl sc Q nm hSc hEnd _ hrc23 _ _ _ _  _ E
      · rw [if_neg c16] at E
        refine go_iconst (z := 0) (n := 698) ⟨by decide, by decide⟩ dL_law_697 rfl ?_
        exact absurd (Prod.mk.inj (Option.some.inj E)).1 (by decide)
  · rw [if_neg c13] at E
    refine go_iconst (z := 0) (n := 681) ⟨by decide, by decide⟩ dL_law_680 rfl ?_
    exact absurd (Prod.mk.inj (Option.some.inj E)).1 (by decide)
noncomputable def XL_law_L767 (F : Nat) (sl : Nat) (sc : Nat → Int) (rc23 : Option Nat → Option Nat → Option Nat → Int → HP → Option (Int × HP)) (l1 : Option Nat) (l2 : Option Nat) (l3 : Option Nat) (l4 : Int)  (h : HP) : Option (Int × HP) :=
  XL_law_L2868 F sl sc rc23 l1 l2 l3 l4 h
set_option maxRecDepth 100000 in
theorem SXL_law_L767 {K : Ctx} {F : Nat} {hf : HP} (sl : Nat) (sc : Nat → Int) (Q : State → Prop) (nm : String) (hSc : ScK K sl sc) (hEnd : ∀ (pc : Nat) (lv : List (Nat × AV)), decode cL_law pc = .ok (.ireturn, 1) → Go K (ML_law nm) Q hf pc lv [vi 1] hf) (rc23 : Option Nat → Option Nat → Option Nat → Int → HP → Option (Int × HP)) (hrc23 : ∀ l1 l2 l3 l4 h, rc23 l1 l2 l3 l4 h = some (1, hf) → Go K (ML_law nm) Q hf 23 [(0, vr (some 4000000)), (1, vr l1), (2, vr l2), (3, vr l3), (4, vi l4)] [] h) (l1 : Option Nat) (l2 : Option Nat) (l3 : Option Nat) (l4 : Int)  (h : HP) (E : XL_law_L767 F sl sc rc23 l1 l2 l3 l4 h = some (1, hf)) : Go K (ML_law nm) Q hf 767 [(0, vr (some 4000000)), (1, vr l1), (2, vr l2), (3, vr l3), (4, vi l4)] [] h := by
  unfold XL_law_L767 at E
  refine go_goto (tgt := 2868) dL_law_767 rfl ?_
  exact SXL_law_L2868 sl sc Q nm hSc hEnd _ hrc23 _ _ _ _  _ E
noncomputable def XL_law_L702 (F : Nat) (sl : Nat) (sc : Nat → Int) (rc23 : Option Nat → Option Nat → Option Nat → Int → HP → Option (Int × HP)) (l1 : Option Nat) (l2 : Option Nat) (l3 : Option Nat) (l4 : Int)  (h : HP) : Option (Int × HP) :=
  (xsc sl sc (w32 (l4 + 1))).bind fun v1 =>
  (xsc sl sc (w32 (l4 + 2))).bind fun v2 =>
  xb (XL_led F l1 v1 v2 l3 h) fun v3 h4 =>
  (xsc sl sc (w32 (l4 + 1))).bind fun v5 =>
  (xsc sl sc (w32 (l4 + 2))).bind fun v6 =>
  (xrc h4 l2 12 31).bind fun a9 =>
  xb (X12_led F a9 v5 v6 h4) fun v7 h8 =>
  (xrc h8 l2 12 31).bind fun a12 =>
  xb (X12_thrown F a12 h8) fun v10 h11 =>
  if v10 = v3 then
    if v3 = 0 then
      (xaJ h11 l3 0).bind fun v15 =>
      if (xcmp v15 v7) = 0 then
        XL_law_L767 F sl sc rc23 l1 l2 l3 l4 h11
      else
        some (0, h11)
    else
      XL_law_L767 F sl sc rc23 l1 l2 l3 l4 h11
  else
    some (0, h11)
set_option maxRecDepth 100000 in
theorem SXL_law_L702 {K : Ctx} {F : Nat} {hf : HP} (sl : Nat) (sc : Nat → Int) (Q : State → Prop) (nm : String) (hSc : ScK K sl sc) (hEnd : ∀ (pc : Nat) (lv : List (Nat × AV)), decode cL_law pc = .ok (.ireturn, 1) → Go K (ML_law nm) Q hf pc lv [vi 1] hf) (rc23 : Option Nat → Option Nat → Option Nat → Int → HP → Option (Int × HP)) (hrc23 : ∀ l1 l2 l3 l4 h, rc23 l1 l2 l3 l4 h = some (1, hf) → Go K (ML_law nm) Q hf 23 [(0, vr (some 4000000)), (1, vr l1), (2, vr l2), (3, vr l3), (4, vi l4)] [] h) (l1 : Option Nat) (l2 : Option Nat) (l3 : Option Nat) (l4 : Int)  (h : HP) (E : XL_law_L702 F sl sc rc23 l1 l2 l3 l4 h = some (1, hf)) : Go K (ML_law nm) Q hf 702 [(0, vr (some 4000000)), (1, vr l1), (2, vr l2), (3, vr l3), (4, vi l4)] [] h := by
  unfold XL_law_L702 at E
  refine go_aload_n (j := 1) (n := 703) rfl rfl dL_law_702 rfl ?_
  refine go_aload_n (j := 0) (n := 704) rfl rfl dL_law_703 rfl ?_
  refine go_iload (j := 4) (n := 706) rfl dL_law_704 rfl ?_
  refine go_iconst (z := 1) (n := 707) ⟨by decide, by decide⟩ dL_law_706 rfl ?_
  refine go_iadd (n := 708) dL_law_707 rfl ?_
  replace E := Option.bind_eq_some_iff.mp E; obtain ⟨v1, ev1, E⟩ := E
  refine go_sld (n := 709) hSc ev1 dL_law_708 rfl ?_
  refine go_aload_n (j := 0) (n := 710) rfl rfl dL_law_709 rfl ?_
  refine go_iload (j := 4) (n := 712) rfl dL_law_710 rfl ?_
  refine go_iconst (z := 2) (n := 713) ⟨by decide, by decide⟩ dL_law_712 rfl ?_
  refine go_iadd (n := 714) dL_law_713 rfl ?_
  replace E := Option.bind_eq_some_iff.mp E; obtain ⟨v2, ev2, E⟩ := E
  refine go_sld (n := 715) hSc ev2 dL_law_714 rfl ?_
  refine go_aload_n (j := 3) (n := 716) rfl rfl dL_law_715 rfl ?_
  replace E := xb_some E; obtain ⟨v3, h4, ev3, E⟩ := E
  refine go_callSW (y := yL_led) (n := 719) (st := []) (as := [vr l1, vi v1, vi v2, vr l3]) (stk9 := [vi v3]) (OXL_led ev3) yw_L_led wml_RL_168 wst_L_led (Nat.le_of_ble_eq_true rfl) rfl ⟨Nat.le_of_ble_eq_true rfl, Nat.le_of_ble_eq_true rfl⟩ (Nat.le_of_ble_eq_true rfl) dL_law_716 rfl rfl rfl ?_
  refine go_istore (n := 721) (lv' := [(5, vi v3), (0, vr (some 4000000)), (1, vr l1), (2, vr l2), (3, vr l3), (4, vi l4)]) dL_law_719 rfl (Nat.le_of_ble_eq_true rfl) rfl ?_
  refine go_aload_n (j := 3) (n := 722) rfl rfl dL_law_721 rfl ?_
  refine go_aload_n (j := 1) (n := 723) rfl rfl dL_law_722 rfl ?_
  refine go_iload (j := 5) (n := 725) rfl dL_law_723 rfl ?_
  refine go_iconst (z := 1) (n := 726) ⟨by decide, by decide⟩ dL_law_725 rfl ?_
  refine go_iadd (n := 727) dL_law_726 rfl ?_
  replace E := Option.bind_eq_some_iff.mp E; obtain ⟨v5, ev5, E⟩ := E
  refine go_sld (n := 728) hSc ev5 dL_law_727 rfl ?_
  refine go_aload_n (j := 1) (n := 729) rfl rfl dL_law_728 rfl ?_
  refine go_iload (j := 5) (n := 731) rfl dL_law_729 rfl ?_
  refine go_iconst (z := 2) (n := 732) ⟨by decide, by decide⟩ dL_law_731 rfl ?_
  refine go_iadd (n := 733) dL_law_732 rfl ?_
  replace E := Option.bind_eq_some_iff.mp E; obtain ⟨v6, ev6, E⟩ := E
  refine go_sld (n := 734) hSc ev6 dL_law_733 rfl ?_
  replace E := Option.bind_eq_some_iff.mp E; obtain ⟨a9, ea9, E⟩ := E
  obtain ⟨fa9, ga9⟩ := xrc_some ea9
  replace E := xb_some E; obtain ⟨v7, h8, ev7, E⟩ := E
  refine go_callV (y := yX12_led) (n := 737) (st := []) (as := [vi v5, vi v6]) (stk9 := [vi v7]) (OX12_led ev7) yw_X12_led ci_12 ga9 wml_RL_170 wim_X12_led wse_X12_led (Nat.le_of_ble_eq_true rfl) rfl ⟨Nat.le_of_ble_eq_true rfl, Nat.le_of_ble_eq_true rfl⟩ (Nat.le_of_ble_eq_true rfl) dL_law_734 rfl (by cases fa9; rfl) rfl ?_
  refine go_istore (n := 739) (lv' := [(6, vi v7), (5, vi v3), (0, vr (some 4000000)), (1, vr l1), (2, vr l2), (3, vr l3), (4, vi l4)]) dL_law_737 rfl (Nat.le_of_ble_eq_true rfl) rfl ?_
  refine go_aload_n (j := 4) (n := 740) rfl rfl dL_law_739 rfl ?_
  replace E := Option.bind_eq_some_iff.mp E; obtain ⟨a12, ea12, E⟩ := E
  obtain ⟨fa12, ga12⟩ := xrc_some ea12
  replace E := xb_some E; obtain ⟨v10, h11, ev10, E⟩ := E
  refine go_callV (y := yX12_thrown) (n := 743) (st := []) (as := []) (stk9 := [vi v10]) (OX12_thrown ev10) yw_X12_thrown ci_12 ga12 wml_RL_146 wim_X12_thrown wse_X12_thrown (Nat.le_of_ble_eq_true rfl) rfl ⟨Nat.le_of_ble_eq_true rfl, Nat.le_of_ble_eq_true rfl⟩ (Nat.le_of_ble_eq_true rfl) dL_law_740 rfl (by cases fa12; rfl) rfl ?_
  refine go_iload (j := 1) (n := 745) rfl dL_law_743 rfl ?_
  refine go_icmp_eq (tgt := 750) (n := 748) dL_law_745 rfl rfl (fun c13 => ?_) (fun c13 => ?_)
  · rw [if_pos c13] at E
    refine go_iload (j := 1) (n := 752) rfl dL_law_750 rfl ?_
    refine go_if_ne (tgt := 767) (n := 755) dL_law_752 rfl rfl (fun c14 => ?_) (fun c14 => ?_)
    · rw [if_neg c14] at E
      refine go_pick (lv' := [(0, vr (some 4000000)), (1, vr l1), (2, vr l2), (3, vr l3), (4, vi l4)]) [2, 3, 4, 5, 6] rfl ?_
      exact SXL_law_L767 sl sc Q nm hSc hEnd _ hrc23 _ _ _ _  _ E
    · rw [if_pos c14] at E
      refine go_aload_n (j := 5) (n := 756) rfl rfl dL_law_755 rfl ?_
      refine go_iconst (z := 0) (n := 757) ⟨by decide, by decide⟩ dL_law_756 rfl ?_
      replace E := Option.bind_eq_some_iff.mp E; obtain ⟨v15, ev15, E⟩ := E
      refine go_laload (n := 758) ev15 dL_law_757 rfl ?_
      refine go_iload (j := 0) (n := 760) rfl dL_law_758 rfl ?_
      refine go_i2l (n := 761) dL_law_760 rfl ?_
      refine go_lcmp (n := 762) dL_law_761 rfl ?_
      refine go_if_eq (tgt := 767) (n := 765) dL_law_762 rfl rfl (fun c16 => ?_) (fun c16 => ?_)
      · rw [if_pos c16] at E
        refine go_pick (lv' := [(0, vr (some 4000000)), (1, vr l1), (2, vr l2), (3, vr l3), (4, vi l4)]) [2, 3, 4, 5, 6] rfl ?_
        exact SXL_law_L767 sl sc Q nm hSc hEnd _ hrc23 _ _ _ _  _ E
      · rw [if_neg c16] at E
        refine go_iconst (z := 0) (n := 766) ⟨by decide, by decide⟩ dL_law_765 rfl ?_
        exact absurd (Prod.mk.inj (Option.some.inj E)).1 (by decide)
  · rw [if_neg c13] at E
    refine go_iconst (z := 0) (n := 749) ⟨by decide, by decide⟩ dL_law_748 rfl ?_
    exact absurd (Prod.mk.inj (Option.some.inj E)).1 (by decide)
noncomputable def XL_law_L887 (F : Nat) (sl : Nat) (sc : Nat → Int) (rc23 : Option Nat → Option Nat → Option Nat → Int → HP → Option (Int × HP)) (l1 : Option Nat) (l2 : Option Nat) (l3 : Option Nat) (l4 : Int)  (h : HP) : Option (Int × HP) :=
  XL_law_L2868 F sl sc rc23 l1 l2 l3 l4 h
set_option maxRecDepth 100000 in
theorem SXL_law_L887 {K : Ctx} {F : Nat} {hf : HP} (sl : Nat) (sc : Nat → Int) (Q : State → Prop) (nm : String) (hSc : ScK K sl sc) (hEnd : ∀ (pc : Nat) (lv : List (Nat × AV)), decode cL_law pc = .ok (.ireturn, 1) → Go K (ML_law nm) Q hf pc lv [vi 1] hf) (rc23 : Option Nat → Option Nat → Option Nat → Int → HP → Option (Int × HP)) (hrc23 : ∀ l1 l2 l3 l4 h, rc23 l1 l2 l3 l4 h = some (1, hf) → Go K (ML_law nm) Q hf 23 [(0, vr (some 4000000)), (1, vr l1), (2, vr l2), (3, vr l3), (4, vi l4)] [] h) (l1 : Option Nat) (l2 : Option Nat) (l3 : Option Nat) (l4 : Int)  (h : HP) (E : XL_law_L887 F sl sc rc23 l1 l2 l3 l4 h = some (1, hf)) : Go K (ML_law nm) Q hf 887 [(0, vr (some 4000000)), (1, vr l1), (2, vr l2), (3, vr l3), (4, vi l4)] [] h := by
  unfold XL_law_L887 at E
  refine go_goto (tgt := 2868) dL_law_887 rfl ?_
  exact SXL_law_L2868 sl sc Q nm hSc hEnd _ hrc23 _ _ _ _  _ E
noncomputable def XL_law_L854 (F : Nat) (sl : Nat) (sc : Nat → Int) (rc23 : Option Nat → Option Nat → Option Nat → Int → HP → Option (Int × HP)) (l1 : Option Nat) (l2 : Option Nat) (l3 : Option Nat) (l4 : Int) (l5 : Int) (s0 : Int) (s1 : Int) (s2 : Int) (s3 : Int) (s4 : Int) (s5 : Option Nat) (h : HP) : Option (Int × HP) :=
  (xrc h s5 12 31).bind fun a3 =>
  xb (X12_job F a3 s4 s3 s2 s1 s0 h) fun v1 h2 =>
  (xrc h2 l2 12 31).bind fun a6 =>
  xb (X12_thrown F a6 h2) fun v4 h5 =>
  if v4 = l5 then
    if l5 = 0 then
      (xaJ h5 l3 0).bind fun v9 =>
      if (xcmp v9 v1) = 0 then
        XL_law_L887 F sl sc rc23 l1 l2 l3 l4 h5
      else
        some (0, h5)
    else
      XL_law_L887 F sl sc rc23 l1 l2 l3 l4 h5
  else
    some (0, h5)
set_option maxRecDepth 100000 in
theorem SXL_law_L854 {K : Ctx} {F : Nat} {hf : HP} (sl : Nat) (sc : Nat → Int) (Q : State → Prop) (nm : String) (hSc : ScK K sl sc) (hEnd : ∀ (pc : Nat) (lv : List (Nat × AV)), decode cL_law pc = .ok (.ireturn, 1) → Go K (ML_law nm) Q hf pc lv [vi 1] hf) (rc23 : Option Nat → Option Nat → Option Nat → Int → HP → Option (Int × HP)) (hrc23 : ∀ l1 l2 l3 l4 h, rc23 l1 l2 l3 l4 h = some (1, hf) → Go K (ML_law nm) Q hf 23 [(0, vr (some 4000000)), (1, vr l1), (2, vr l2), (3, vr l3), (4, vi l4)] [] h) (l1 : Option Nat) (l2 : Option Nat) (l3 : Option Nat) (l4 : Int) (l5 : Int) (s0 : Int) (s1 : Int) (s2 : Int) (s3 : Int) (s4 : Int) (s5 : Option Nat) (h : HP) (E : XL_law_L854 F sl sc rc23 l1 l2 l3 l4 l5 s0 s1 s2 s3 s4 s5 h = some (1, hf)) : Go K (ML_law nm) Q hf 854 [(0, vr (some 4000000)), (1, vr l1), (2, vr l2), (3, vr l3), (4, vi l4), (5, vi l5)] [vi s0, vi s1, vi s2, vi s3, vi s4, vr s5] h := by
  unfold XL_law_L854 at E
  replace E := Option.bind_eq_some_iff.mp E; obtain ⟨a3, ea3, E⟩ := E
  obtain ⟨fa3, ga3⟩ := xrc_some ea3
  replace E := xb_some E; obtain ⟨v1, h2, ev1, E⟩ := E
  refine go_callV (y := yX12_job) (n := 857) (st := []) (as := [vi s4, vi s3, vi s2, vi s1, vi s0]) (stk9 := [vi v1]) (OX12_job ev1) yw_X12_job ci_12 ga3 wml_RL_174 wim_X12_job wse_X12_job (Nat.le_of_ble_eq_true rfl) rfl ⟨Nat.le_of_ble_eq_true rfl, Nat.le_of_ble_eq_true rfl⟩ (Nat.le_of_ble_eq_true rfl) dL_law_854 rfl (by cases fa3; rfl) rfl ?_
  refine go_istore (n := 859) (lv' := [(6, vi v1), (0, vr (some 4000000)), (1, vr l1), (2, vr l2), (3, vr l3), (4, vi l4), (5, vi l5)]) dL_law_857 rfl (Nat.le_of_ble_eq_true rfl) rfl ?_
  refine go_aload_n (j := 3) (n := 860) rfl rfl dL_law_859 rfl ?_
  replace E := Option.bind_eq_some_iff.mp E; obtain ⟨a6, ea6, E⟩ := E
  obtain ⟨fa6, ga6⟩ := xrc_some ea6
  replace E := xb_some E; obtain ⟨v4, h5, ev4, E⟩ := E
  refine go_callV (y := yX12_thrown) (n := 863) (st := []) (as := []) (stk9 := [vi v4]) (OX12_thrown ev4) yw_X12_thrown ci_12 ga6 wml_RL_146 wim_X12_thrown wse_X12_thrown (Nat.le_of_ble_eq_true rfl) rfl ⟨Nat.le_of_ble_eq_true rfl, Nat.le_of_ble_eq_true rfl⟩ (Nat.le_of_ble_eq_true rfl) dL_law_860 rfl (by cases fa6; rfl) rfl ?_
  refine go_iload (j := 6) (n := 865) rfl dL_law_863 rfl ?_
  refine go_icmp_eq (tgt := 870) (n := 868) dL_law_865 rfl rfl (fun c7 => ?_) (fun c7 => ?_)
  · rw [if_pos c7] at E
    refine go_iload (j := 6) (n := 872) rfl dL_law_870 rfl ?_
    refine go_if_ne (tgt := 887) (n := 875) dL_law_872 rfl rfl (fun c8 => ?_) (fun c8 => ?_)
    · rw [if_neg c8] at E
      refine go_pick (lv' := [(0, vr (some 4000000)), (1, vr l1), (2, vr l2), (3, vr l3), (4, vi l4)]) [1, 2, 3, 4, 5] rfl ?_
      exact SXL_law_L887 sl sc Q nm hSc hEnd _ hrc23 _ _ _ _  _ E
    · rw [if_pos c8] at E
      refine go_aload_n (j := 4) (n := 876) rfl rfl dL_law_875 rfl ?_
      refine go_iconst (z := 0) (n := 877) ⟨by decide, by decide⟩ dL_law_876 rfl ?_
      replace E := Option.bind_eq_some_iff.mp E; obtain ⟨v9, ev9, E⟩ := E
      refine go_laload (n := 878) ev9 dL_law_877 rfl ?_
      refine go_iload (j := 0) (n := 880) rfl dL_law_878 rfl ?_
      refine go_i2l (n := 881) dL_law_880 rfl ?_
      refine go_lcmp (n := 882) dL_law_881 rfl ?_
      refine go_if_eq (tgt := 887) (n := 885) dL_law_882 rfl rfl (fun c10 => ?_) (fun c10 => ?_)
      · rw [if_pos c10] at E
        refine go_pick (lv' := [(0, vr (some 4000000)), (1, vr l1), (2, vr l2), (3, vr l3), (4, vi l4)]) [1, 2, 3, 4, 5] rfl ?_
        exact SXL_law_L887 sl sc Q nm hSc hEnd _ hrc23 _ _ _ _  _ E
      · rw [if_neg c10] at E
        refine go_iconst (z := 0) (n := 886) ⟨by decide, by decide⟩ dL_law_885 rfl ?_
        exact absurd (Prod.mk.inj (Option.some.inj E)).1 (by decide)
  · rw [if_neg c7] at E
    refine go_iconst (z := 0) (n := 869) ⟨by decide, by decide⟩ dL_law_868 rfl ?_
    exact absurd (Prod.mk.inj (Option.some.inj E)).1 (by decide)
noncomputable def XL_law_L809 (F : Nat) (sl : Nat) (sc : Nat → Int) (rc23 : Option Nat → Option Nat → Option Nat → Int → HP → Option (Int × HP)) (l1 : Option Nat) (l2 : Option Nat) (l3 : Option Nat) (l4 : Int) (s0 : Int) (s1 : Int) (s2 : Int) (s3 : Int) (s4 : Int) (s5 : Option Nat) (h : HP) : Option (Int × HP) :=
  xb (XL_job F s5 s4 s3 s2 s1 s0 l3 h) fun v1 h2 =>
  (xsc sl sc (w32 (l4 + 1))).bind fun v3 =>
  (xsc sl sc (w32 (l4 + 2))).bind fun v4 =>
  (xsc sl sc (w32 (l4 + 3))).bind fun v5 =>
  (xsc sl sc (w32 (l4 + 4))).bind fun v6 =>
  (xsc sl sc (w32 (l4 + 5))).bind fun v7 =>
  XL_law_L854 F sl sc rc23 l1 l2 l3 l4 v1 (if v7 = 0 then 0 else 1) v6 v5 v4 v3 l2 h2
set_option maxRecDepth 100000 in
theorem SXL_law_L809 {K : Ctx} {F : Nat} {hf : HP} (sl : Nat) (sc : Nat → Int) (Q : State → Prop) (nm : String) (hSc : ScK K sl sc) (hEnd : ∀ (pc : Nat) (lv : List (Nat × AV)), decode cL_law pc = .ok (.ireturn, 1) → Go K (ML_law nm) Q hf pc lv [vi 1] hf) (rc23 : Option Nat → Option Nat → Option Nat → Int → HP → Option (Int × HP)) (hrc23 : ∀ l1 l2 l3 l4 h, rc23 l1 l2 l3 l4 h = some (1, hf) → Go K (ML_law nm) Q hf 23 [(0, vr (some 4000000)), (1, vr l1), (2, vr l2), (3, vr l3), (4, vi l4)] [] h) (l1 : Option Nat) (l2 : Option Nat) (l3 : Option Nat) (l4 : Int) (s0 : Int) (s1 : Int) (s2 : Int) (s3 : Int) (s4 : Int) (s5 : Option Nat) (h : HP) (E : XL_law_L809 F sl sc rc23 l1 l2 l3 l4 s0 s1 s2 s3 s4 s5 h = some (1, hf)) : Go K (ML_law nm) Q hf 809 [(0, vr (some 4000000)), (1, vr l1), (2, vr l2), (3, vr l3), (4, vi l4)] [vi s0, vi s1, vi s2, vi s3, vi s4, vr s5] h := by
  unfold XL_law_L809 at E
  refine go_aload_n (j := 3) (n := 810) rfl rfl dL_law_809 rfl ?_
  replace E := xb_some E; obtain ⟨v1, h2, ev1, E⟩ := E
  refine go_callSW (y := yL_job) (n := 813) (st := []) (as := [vr s5, vi s4, vi s3, vi s2, vi s1, vi s0, vr l3]) (stk9 := [vi v1]) (OXL_job ev1) yw_L_job wml_RL_171 wst_L_job (Nat.le_of_ble_eq_true rfl) rfl ⟨Nat.le_of_ble_eq_true rfl, Nat.le_of_ble_eq_true rfl⟩ (Nat.le_of_ble_eq_true rfl) dL_law_810 rfl rfl rfl ?_
  refine go_istore (n := 815) (lv' := [(5, vi v1), (0, vr (some 4000000)), (1, vr l1), (2, vr l2), (3, vr l3), (4, vi l4)]) dL_law_813 rfl (Nat.le_of_ble_eq_true rfl) rfl ?_
  refine go_aload_n (j := 3) (n := 816) rfl rfl dL_law_815 rfl ?_
  refine go_aload_n (j := 1) (n := 817) rfl rfl dL_law_816 rfl ?_
  refine go_iload (j := 5) (n := 819) rfl dL_law_817 rfl ?_
  refine go_iconst (z := 1) (n := 820) ⟨by decide, by decide⟩ dL_law_819 rfl ?_
  refine go_iadd (n := 821) dL_law_820 rfl ?_
  replace E := Option.bind_eq_some_iff.mp E; obtain ⟨v3, ev3, E⟩ := E
  refine go_sld (n := 822) hSc ev3 dL_law_821 rfl ?_
  refine go_aload_n (j := 1) (n := 823) rfl rfl dL_law_822 rfl ?_
  refine go_iload (j := 5) (n := 825) rfl dL_law_823 rfl ?_
  refine go_iconst (z := 2) (n := 826) ⟨by decide, by decide⟩ dL_law_825 rfl ?_
  refine go_iadd (n := 827) dL_law_826 rfl ?_
  replace E := Option.bind_eq_some_iff.mp E; obtain ⟨v4, ev4, E⟩ := E
  refine go_sld (n := 828) hSc ev4 dL_law_827 rfl ?_
  refine go_aload_n (j := 1) (n := 829) rfl rfl dL_law_828 rfl ?_
  refine go_iload (j := 5) (n := 831) rfl dL_law_829 rfl ?_
  refine go_iconst (z := 3) (n := 832) ⟨by decide, by decide⟩ dL_law_831 rfl ?_
  refine go_iadd (n := 833) dL_law_832 rfl ?_
  replace E := Option.bind_eq_some_iff.mp E; obtain ⟨v5, ev5, E⟩ := E
  refine go_sld (n := 834) hSc ev5 dL_law_833 rfl ?_
  refine go_aload_n (j := 1) (n := 835) rfl rfl dL_law_834 rfl ?_
  refine go_iload (j := 5) (n := 837) rfl dL_law_835 rfl ?_
  refine go_iconst (z := 4) (n := 838) ⟨by decide, by decide⟩ dL_law_837 rfl ?_
  refine go_iadd (n := 839) dL_law_838 rfl ?_
  replace E := Option.bind_eq_some_iff.mp E; obtain ⟨v6, ev6, E⟩ := E
  refine go_sld (n := 840) hSc ev6 dL_law_839 rfl ?_
  refine go_aload_n (j := 1) (n := 841) rfl rfl dL_law_840 rfl ?_
  refine go_iload (j := 5) (n := 843) rfl dL_law_841 rfl ?_
  refine go_iconst (z := 5) (n := 844) ⟨by decide, by decide⟩ dL_law_843 rfl ?_
  refine go_iadd (n := 845) dL_law_844 rfl ?_
  replace E := Option.bind_eq_some_iff.mp E; obtain ⟨v7, ev7, E⟩ := E
  refine go_sld (n := 846) hSc ev7 dL_law_845 rfl ?_
  refine go_if_eq (tgt := 853) (n := 849) dL_law_846 rfl rfl (fun c8 => ?_) (fun c8 => ?_)
  · simp only [if_pos c8] at E
    refine go_iconst (z := 0) (n := 854) ⟨by decide, by decide⟩ dL_law_853 rfl ?_
    refine go_pick (lv' := [(0, vr (some 4000000)), (1, vr l1), (2, vr l2), (3, vr l3), (4, vi l4), (5, vi v1)]) [1, 2, 3, 4, 5, 0] rfl ?_
    exact SXL_law_L854 sl sc Q nm hSc hEnd _ hrc23 _ _ _ _ _ _ _ _ _ _ _ _ E
  · simp only [if_neg c8] at E
    refine go_iconst (z := 1) (n := 850) ⟨by decide, by decide⟩ dL_law_849 rfl ?_
    refine go_goto (tgt := 854) dL_law_850 rfl ?_
    refine go_pick (lv' := [(0, vr (some 4000000)), (1, vr l1), (2, vr l2), (3, vr l3), (4, vi l4), (5, vi v1)]) [1, 2, 3, 4, 5, 0] rfl ?_
    exact SXL_law_L854 sl sc Q nm hSc hEnd _ hrc23 _ _ _ _ _ _ _ _ _ _ _ _ E
noncomputable def XL_law_L770 (F : Nat) (sl : Nat) (sc : Nat → Int) (rc23 : Option Nat → Option Nat → Option Nat → Int → HP → Option (Int × HP)) (l1 : Option Nat) (l2 : Option Nat) (l3 : Option Nat) (l4 : Int)  (h : HP) : Option (Int × HP) :=
  (xsc sl sc (w32 (l4 + 1))).bind fun v1 =>
  (xsc sl sc (w32 (l4 + 2))).bind fun v2 =>
  (xsc sl sc (w32 (l4 + 3))).bind fun v3 =>
  (xsc sl sc (w32 (l4 + 4))).bind fun v4 =>
  (xsc sl sc (w32 (l4 + 5))).bind fun v5 =>
  XL_law_L809 F sl sc rc23 l1 l2 l3 l4 (if v5 = 0 then 0 else 1) v4 v3 v2 v1 l1 h
set_option maxRecDepth 100000 in
theorem SXL_law_L770 {K : Ctx} {F : Nat} {hf : HP} (sl : Nat) (sc : Nat → Int) (Q : State → Prop) (nm : String) (hSc : ScK K sl sc) (hEnd : ∀ (pc : Nat) (lv : List (Nat × AV)), decode cL_law pc = .ok (.ireturn, 1) → Go K (ML_law nm) Q hf pc lv [vi 1] hf) (rc23 : Option Nat → Option Nat → Option Nat → Int → HP → Option (Int × HP)) (hrc23 : ∀ l1 l2 l3 l4 h, rc23 l1 l2 l3 l4 h = some (1, hf) → Go K (ML_law nm) Q hf 23 [(0, vr (some 4000000)), (1, vr l1), (2, vr l2), (3, vr l3), (4, vi l4)] [] h) (l1 : Option Nat) (l2 : Option Nat) (l3 : Option Nat) (l4 : Int)  (h : HP) (E : XL_law_L770 F sl sc rc23 l1 l2 l3 l4 h = some (1, hf)) : Go K (ML_law nm) Q hf 770 [(0, vr (some 4000000)), (1, vr l1), (2, vr l2), (3, vr l3), (4, vi l4)] [] h := by
  unfold XL_law_L770 at E
  refine go_aload_n (j := 1) (n := 771) rfl rfl dL_law_770 rfl ?_
  refine go_aload_n (j := 0) (n := 772) rfl rfl dL_law_771 rfl ?_
  refine go_iload (j := 4) (n := 774) rfl dL_law_772 rfl ?_
  refine go_iconst (z := 1) (n := 775) ⟨by decide, by decide⟩ dL_law_774 rfl ?_
  refine go_iadd (n := 776) dL_law_775 rfl ?_
  replace E := Option.bind_eq_some_iff.mp E; obtain ⟨v1, ev1, E⟩ := E
  refine go_sld (n := 777) hSc ev1 dL_law_776 rfl ?_
  refine go_aload_n (j := 0) (n := 778) rfl rfl dL_law_777 rfl ?_
  refine go_iload (j := 4) (n := 780) rfl dL_law_778 rfl ?_
  refine go_iconst (z := 2) (n := 781) ⟨by decide, by decide⟩ dL_law_780 rfl ?_
  refine go_iadd (n := 782) dL_law_781 rfl ?_
  replace E := Option.bind_eq_some_iff.mp E; obtain ⟨v2, ev2, E⟩ := E
  refine go_sld (n := 783) hSc ev2 dL_law_782 rfl ?_
  refine go_aload_n (j := 0) (n := 784) rfl rfl dL_law_783 rfl ?_
  refine go_iload (j := 4) (n := 786) rfl dL_law_784 rfl ?_
  refine go_iconst (z := 3) (n := 787) ⟨by decide, by decide⟩ dL_law_786 rfl ?_
  refine go_iadd (n := 788) dL_law_787 rfl ?_
  replace E := Option.bind_eq_some_iff.mp E; obtain ⟨v3, ev3, E⟩ := E
  refine go_sld (n := 789) hSc ev3 dL_law_788 rfl ?_
  refine go_aload_n (j := 0) (n := 790) rfl rfl dL_law_789 rfl ?_
  refine go_iload (j := 4) (n := 792) rfl dL_law_790 rfl ?_
  refine go_iconst (z := 4) (n := 793) ⟨by decide, by decide⟩ dL_law_792 rfl ?_
  refine go_iadd (n := 794) dL_law_793 rfl ?_
  replace E := Option.bind_eq_some_iff.mp E; obtain ⟨v4, ev4, E⟩ := E
  refine go_sld (n := 795) hSc ev4 dL_law_794 rfl ?_
  refine go_aload_n (j := 0) (n := 796) rfl rfl dL_law_795 rfl ?_
  refine go_iload (j := 4) (n := 798) rfl dL_law_796 rfl ?_
  refine go_iconst (z := 5) (n := 799) ⟨by decide, by decide⟩ dL_law_798 rfl ?_
  refine go_iadd (n := 800) dL_law_799 rfl ?_
  replace E := Option.bind_eq_some_iff.mp E; obtain ⟨v5, ev5, E⟩ := E
  refine go_sld (n := 801) hSc ev5 dL_law_800 rfl ?_
  refine go_if_eq (tgt := 808) (n := 804) dL_law_801 rfl rfl (fun c6 => ?_) (fun c6 => ?_)
  · simp only [if_pos c6] at E
    refine go_iconst (z := 0) (n := 809) ⟨by decide, by decide⟩ dL_law_808 rfl ?_
    exact SXL_law_L809 sl sc Q nm hSc hEnd _ hrc23 _ _ _ _ _ _ _ _ _ _ _ E
  · simp only [if_neg c6] at E
    refine go_iconst (z := 1) (n := 805) ⟨by decide, by decide⟩ dL_law_804 rfl ?_
    refine go_goto (tgt := 809) dL_law_805 rfl ?_
    exact SXL_law_L809 sl sc Q nm hSc hEnd _ hrc23 _ _ _ _ _ _ _ _ _ _ _ E
noncomputable def XL_law_L890 (F : Nat) (sl : Nat) (sc : Nat → Int) (rc23 : Option Nat → Option Nat → Option Nat → Int → HP → Option (Int × HP)) (l1 : Option Nat) (l2 : Option Nat) (l3 : Option Nat) (l4 : Int)  (h : HP) : Option (Int × HP) :=
  (xrc h l1 11 6).bind fun a3 =>
  xb (X11_fault F a3 h) fun v1 h2 =>
  (xrc h2 l2 12 31).bind fun a6 =>
  xb (X12_fault F a6 h2) fun v4 h5 =>
  if v1 = v4 then
    XL_law_L2868 F sl sc rc23 l1 l2 l3 l4 h5
  else
    some (0, h5)
set_option maxRecDepth 100000 in
theorem SXL_law_L890 {K : Ctx} {F : Nat} {hf : HP} (sl : Nat) (sc : Nat → Int) (Q : State → Prop) (nm : String) (hSc : ScK K sl sc) (hEnd : ∀ (pc : Nat) (lv : List (Nat × AV)), decode cL_law pc = .ok (.ireturn, 1) → Go K (ML_law nm) Q hf pc lv [vi 1] hf) (rc23 : Option Nat → Option Nat → Option Nat → Int → HP → Option (Int × HP)) (hrc23 : ∀ l1 l2 l3 l4 h, rc23 l1 l2 l3 l4 h = some (1, hf) → Go K (ML_law nm) Q hf 23 [(0, vr (some 4000000)), (1, vr l1), (2, vr l2), (3, vr l3), (4, vi l4)] [] h) (l1 : Option Nat) (l2 : Option Nat) (l3 : Option Nat) (l4 : Int)  (h : HP) (E : XL_law_L890 F sl sc rc23 l1 l2 l3 l4 h = some (1, hf)) : Go K (ML_law nm) Q hf 890 [(0, vr (some 4000000)), (1, vr l1), (2, vr l2), (3, vr l3), (4, vi l4)] [] h := by
  unfold XL_law_L890 at E
  refine go_aload_n (j := 1) (n := 891) rfl rfl dL_law_890 rfl ?_
  replace E := Option.bind_eq_some_iff.mp E; obtain ⟨a3, ea3, E⟩ := E
  obtain ⟨fa3, ga3⟩ := xrc_some ea3
  replace E := xb_some E; obtain ⟨v1, h2, ev1, E⟩ := E
  refine go_callV (y := yX11_fault) (n := 894) (st := []) (as := []) (stk9 := [vi v1]) (OX11_fault ev1) yw_X11_fault ci_11 ga3 wml_RL_175 wim_X11_fault wse_X11_fault (Nat.le_of_ble_eq_true rfl) rfl ⟨Nat.le_of_ble_eq_true rfl, Nat.le_of_ble_eq_true rfl⟩ (Nat.le_of_ble_eq_true rfl) dL_law_891 rfl (by cases fa3; rfl) rfl ?_
  refine go_aload_n (j := 2) (n := 895) rfl rfl dL_law_894 rfl ?_
  replace E := Option.bind_eq_some_iff.mp E; obtain ⟨a6, ea6, E⟩ := E
  obtain ⟨fa6, ga6⟩ := xrc_some ea6
  replace E := xb_some E; obtain ⟨v4, h5, ev4, E⟩ := E
  refine go_callV (y := yX12_fault) (n := 898) (st := [vi v1]) (as := []) (stk9 := [vi v4, vi v1]) (OX12_fault ev4) yw_X12_fault ci_12 ga6 wml_RL_178 wim_X12_fault wse_X12_fault (Nat.le_of_ble_eq_true rfl) rfl ⟨Nat.le_of_ble_eq_true rfl, Nat.le_of_ble_eq_true rfl⟩ (Nat.le_of_ble_eq_true rfl) dL_law_895 rfl (by cases fa6; rfl) rfl ?_
  refine go_icmp_eq (tgt := 2868) (n := 901) dL_law_898 rfl rfl (fun c7 => ?_) (fun c7 => ?_)
  · rw [if_pos c7] at E
    exact SXL_law_L2868 sl sc Q nm hSc hEnd _ hrc23 _ _ _ _  _ E
  · rw [if_neg c7] at E
    refine go_iconst (z := 0) (n := 902) ⟨by decide, by decide⟩ dL_law_901 rfl ?_
    exact absurd (Prod.mk.inj (Option.some.inj E)).1 (by decide)
noncomputable def XL_law_L903 (F : Nat) (sl : Nat) (sc : Nat → Int) (rc23 : Option Nat → Option Nat → Option Nat → Int → HP → Option (Int × HP)) (l1 : Option Nat) (l2 : Option Nat) (l3 : Option Nat) (l4 : Int)  (h : HP) : Option (Int × HP) :=
  (xsc sl sc (w32 (l4 + 1))).bind fun v1 =>
  (xsc sl sc (w32 (l4 + 2))).bind fun v2 =>
  (xsc sl sc (w32 (l4 + 3))).bind fun v3 =>
  (xsc sl sc (w32 (l4 + 4))).bind fun v4 =>
  xb (XL_shorter F l1 v1 v2 v3 v4 h) fun v5 h6 =>
  (xsc sl sc (w32 (l4 + 1))).bind fun v7 =>
  (xsc sl sc (w32 (l4 + 2))).bind fun v8 =>
  (xsc sl sc (w32 (l4 + 3))).bind fun v9 =>
  (xsc sl sc (w32 (l4 + 4))).bind fun v10 =>
  (xrc h6 l2 12 31).bind fun a13 =>
  xb (X12_shorter F a13 v7 v8 v9 v10 h6) fun v11 h12 =>
  (xrc h12 l2 12 31).bind fun a16 =>
  xb (X12_thrown F a16 h12) fun v14 h15 =>
  if v14 = v5 then
    XL_law_L2868 F sl sc rc23 l1 l2 l3 l4 h15
  else
    some (0, h15)
set_option maxRecDepth 100000 in
theorem SXL_law_L903 {K : Ctx} {F : Nat} {hf : HP} (sl : Nat) (sc : Nat → Int) (Q : State → Prop) (nm : String) (hSc : ScK K sl sc) (hEnd : ∀ (pc : Nat) (lv : List (Nat × AV)), decode cL_law pc = .ok (.ireturn, 1) → Go K (ML_law nm) Q hf pc lv [vi 1] hf) (rc23 : Option Nat → Option Nat → Option Nat → Int → HP → Option (Int × HP)) (hrc23 : ∀ l1 l2 l3 l4 h, rc23 l1 l2 l3 l4 h = some (1, hf) → Go K (ML_law nm) Q hf 23 [(0, vr (some 4000000)), (1, vr l1), (2, vr l2), (3, vr l3), (4, vi l4)] [] h) (l1 : Option Nat) (l2 : Option Nat) (l3 : Option Nat) (l4 : Int)  (h : HP) (E : XL_law_L903 F sl sc rc23 l1 l2 l3 l4 h = some (1, hf)) : Go K (ML_law nm) Q hf 903 [(0, vr (some 4000000)), (1, vr l1), (2, vr l2), (3, vr l3), (4, vi l4)] [] h := by
  unfold XL_law_L903 at E
  refine go_aload_n (j := 1) (n := 904) rfl rfl dL_law_903 rfl ?_
  refine go_aload_n (j := 0) (n := 905) rfl rfl dL_law_904 rfl ?_
  refine go_iload (j := 4) (n := 907) rfl dL_law_905 rfl ?_
  refine go_iconst (z := 1) (n := 908) ⟨by decide, by decide⟩ dL_law_907 rfl ?_
  refine go_iadd (n := 909) dL_law_908 rfl ?_
  replace E := Option.bind_eq_some_iff.mp E; obtain ⟨v1, ev1, E⟩ := E
  refine go_sld (n := 910) hSc ev1 dL_law_909 rfl ?_
  refine go_aload_n (j := 0) (n := 911) rfl rfl dL_law_910 rfl ?_
  refine go_iload (j := 4) (n := 913) rfl dL_law_911 rfl ?_
  refine go_iconst (z := 2) (n := 914) ⟨by decide, by decide⟩ dL_law_913 rfl ?_
  refine go_iadd (n := 915) dL_law_914 rfl ?_
  replace E := Option.bind_eq_some_iff.mp E; obtain ⟨v2, ev2, E⟩ := E
  refine go_sld (n := 916) hSc ev2 dL_law_915 rfl ?_
  refine go_aload_n (j := 0) (n := 917) rfl rfl dL_law_916 rfl ?_
  refine go_iload (j := 4) (n := 919) rfl dL_law_917 rfl ?_
  refine go_iconst (z := 3) (n := 920) ⟨by decide, by decide⟩ dL_law_919 rfl ?_
  refine go_iadd (n := 921) dL_law_920 rfl ?_
  replace E := Option.bind_eq_some_iff.mp E; obtain ⟨v3, ev3, E⟩ := E
  refine go_sld (n := 922) hSc ev3 dL_law_921 rfl ?_
  refine go_aload_n (j := 0) (n := 923) rfl rfl dL_law_922 rfl ?_
  refine go_iload (j := 4) (n := 925) rfl dL_law_923 rfl ?_
  refine go_iconst (z := 4) (n := 926) ⟨by decide, by decide⟩ dL_law_925 rfl ?_
  refine go_iadd (n := 927) dL_law_926 rfl ?_
  replace E := Option.bind_eq_some_iff.mp E; obtain ⟨v4, ev4, E⟩ := E
  refine go_sld (n := 928) hSc ev4 dL_law_927 rfl ?_
  replace E := xb_some E; obtain ⟨v5, h6, ev5, E⟩ := E
  refine go_callSW (y := yL_shorter) (n := 931) (st := []) (as := [vr l1, vi v1, vi v2, vi v3, vi v4]) (stk9 := [vi v5]) (OXL_shorter ev5) yw_L_shorter wml_RL_179 wst_L_shorter (Nat.le_of_ble_eq_true rfl) rfl ⟨Nat.le_of_ble_eq_true rfl, Nat.le_of_ble_eq_true rfl⟩ (Nat.le_of_ble_eq_true rfl) dL_law_928 rfl rfl rfl ?_
  refine go_istore (n := 933) (lv' := [(5, vi v5), (0, vr (some 4000000)), (1, vr l1), (2, vr l2), (3, vr l3), (4, vi l4)]) dL_law_931 rfl (Nat.le_of_ble_eq_true rfl) rfl ?_
  refine go_aload_n (j := 3) (n := 934) rfl rfl dL_law_933 rfl ?_
  refine go_aload_n (j := 1) (n := 935) rfl rfl dL_law_934 rfl ?_
  refine go_iload (j := 5) (n := 937) rfl dL_law_935 rfl ?_
  refine go_iconst (z := 1) (n := 938) ⟨by decide, by decide⟩ dL_law_937 rfl ?_
  refine go_iadd (n := 939) dL_law_938 rfl ?_
  replace E := Option.bind_eq_some_iff.mp E; obtain ⟨v7, ev7, E⟩ := E
  refine go_sld (n := 940) hSc ev7 dL_law_939 rfl ?_
  refine go_aload_n (j := 1) (n := 941) rfl rfl dL_law_940 rfl ?_
  refine go_iload (j := 5) (n := 943) rfl dL_law_941 rfl ?_
  refine go_iconst (z := 2) (n := 944) ⟨by decide, by decide⟩ dL_law_943 rfl ?_
  refine go_iadd (n := 945) dL_law_944 rfl ?_
  replace E := Option.bind_eq_some_iff.mp E; obtain ⟨v8, ev8, E⟩ := E
  refine go_sld (n := 946) hSc ev8 dL_law_945 rfl ?_
  refine go_aload_n (j := 1) (n := 947) rfl rfl dL_law_946 rfl ?_
  refine go_iload (j := 5) (n := 949) rfl dL_law_947 rfl ?_
  refine go_iconst (z := 3) (n := 950) ⟨by decide, by decide⟩ dL_law_949 rfl ?_
  refine go_iadd (n := 951) dL_law_950 rfl ?_
  replace E := Option.bind_eq_some_iff.mp E; obtain ⟨v9, ev9, E⟩ := E
  refine go_sld (n := 952) hSc ev9 dL_law_951 rfl ?_
  refine go_aload_n (j := 1) (n := 953) rfl rfl dL_law_952 rfl ?_
  refine go_iload (j := 5) (n := 955) rfl dL_law_953 rfl ?_
  refine go_iconst (z := 4) (n := 956) ⟨by decide, by decide⟩ dL_law_955 rfl ?_
  refine go_iadd (n := 957) dL_law_956 rfl ?_
  replace E := Option.bind_eq_some_iff.mp E; obtain ⟨v10, ev10, E⟩ := E
  refine go_sld (n := 958) hSc ev10 dL_law_957 rfl ?_
  replace E := Option.bind_eq_some_iff.mp E; obtain ⟨a13, ea13, E⟩ := E
  obtain ⟨fa13, ga13⟩ := xrc_some ea13
  replace E := xb_some E; obtain ⟨v11, h12, ev11, E⟩ := E
  refine go_callV (y := yX12_shorter) (n := 961) (st := []) (as := [vi v7, vi v8, vi v9, vi v10]) (stk9 := []) (OX12_shorter ev11) yw_X12_shorter ci_12 ga13 wml_RL_182 wim_X12_shorter wse_X12_shorter (Nat.le_of_ble_eq_true rfl) rfl ⟨Nat.le_of_ble_eq_true rfl, Nat.le_of_ble_eq_true rfl⟩ (Nat.le_of_ble_eq_true rfl) dL_law_958 rfl (by cases fa13; rfl) rfl ?_
  refine go_aload_n (j := 3) (n := 962) rfl rfl dL_law_961 rfl ?_
  replace E := Option.bind_eq_some_iff.mp E; obtain ⟨a16, ea16, E⟩ := E
  obtain ⟨fa16, ga16⟩ := xrc_some ea16
  replace E := xb_some E; obtain ⟨v14, h15, ev14, E⟩ := E
  refine go_callV (y := yX12_thrown) (n := 965) (st := []) (as := []) (stk9 := [vi v14]) (OX12_thrown ev14) yw_X12_thrown ci_12 ga16 wml_RL_146 wim_X12_thrown wse_X12_thrown (Nat.le_of_ble_eq_true rfl) rfl ⟨Nat.le_of_ble_eq_true rfl, Nat.le_of_ble_eq_true rfl⟩ (Nat.le_of_ble_eq_true rfl) dL_law_962 rfl (by cases fa16; rfl) rfl ?_
  refine go_iload (j := 0) (n := 967) rfl dL_law_965 rfl ?_
  refine go_icmp_eq (tgt := 972) (n := 970) dL_law_967 rfl rfl (fun c17 => ?_) (fun c17 => ?_)
  · rw [if_pos c17] at E
    refine go_goto (tgt := 2868) dL_law_972 rfl ?_
    refine go_pick (lv' := [(0, vr (some 4000000)), (1, vr l1), (2, vr l2), (3, vr l3), (4, vi l4)]) [1, 2, 3, 4, 5] rfl ?_
    exact SXL_law_L2868 sl sc Q nm hSc hEnd _ hrc23 _ _ _ _  _ E
  · rw [if_neg c17] at E
    refine go_iconst (z := 0) (n := 971) ⟨by decide, by decide⟩ dL_law_970 rfl ?_
    exact absurd (Prod.mk.inj (Option.some.inj E)).1 (by decide)
noncomputable def XL_law_L1055 (F : Nat) (sl : Nat) (sc : Nat → Int) (rc23 : Option Nat → Option Nat → Option Nat → Int → HP → Option (Int × HP)) (l1 : Option Nat) (l2 : Option Nat) (l3 : Option Nat) (l4 : Int)  (h : HP) : Option (Int × HP) :=
  XL_law_L2868 F sl sc rc23 l1 l2 l3 l4 h
set_option maxRecDepth 100000 in
theorem SXL_law_L1055 {K : Ctx} {F : Nat} {hf : HP} (sl : Nat) (sc : Nat → Int) (Q : State → Prop) (nm : String) (hSc : ScK K sl sc) (hEnd : ∀ (pc : Nat) (lv : List (Nat × AV)), decode cL_law pc = .ok (.ireturn, 1) → Go K (ML_law nm) Q hf pc lv [vi 1] hf) (rc23 : Option Nat → Option Nat → Option Nat → Int → HP → Option (Int × HP)) (hrc23 : ∀ l1 l2 l3 l4 h, rc23 l1 l2 l3 l4 h = some (1, hf) → Go K (ML_law nm) Q hf 23 [(0, vr (some 4000000)), (1, vr l1), (2, vr l2), (3, vr l3), (4, vi l4)] [] h) (l1 : Option Nat) (l2 : Option Nat) (l3 : Option Nat) (l4 : Int)  (h : HP) (E : XL_law_L1055 F sl sc rc23 l1 l2 l3 l4 h = some (1, hf)) : Go K (ML_law nm) Q hf 1055 [(0, vr (some 4000000)), (1, vr l1), (2, vr l2), (3, vr l3), (4, vi l4)] [] h := by
  unfold XL_law_L1055 at E
  refine go_goto (tgt := 2868) dL_law_1055 rfl ?_
  exact SXL_law_L2868 sl sc Q nm hSc hEnd _ hrc23 _ _ _ _  _ E
noncomputable def XL_law_L1023 (F : Nat) (sl : Nat) (sc : Nat → Int) (rc23 : Option Nat → Option Nat → Option Nat → Int → HP → Option (Int × HP)) (l1 : Option Nat) (l2 : Option Nat) (l3 : Option Nat) (l4 : Int) (l5 : Int) (s0 : Int) (s1 : Int) (s2 : Option Nat) (h : HP) : Option (Int × HP) :=
  (xrc h s2 12 31).bind fun a3 =>
  xb (X12_words F a3 s1 s0 h) fun v1 h2 =>
  (xrc h2 l2 12 31).bind fun a6 =>
  xb (X12_thrown F a6 h2) fun v4 h5 =>
  if v4 = l5 then
    if l5 = 0 then
      (xaJ h5 l3 0).bind fun v9 =>
      if (xcmp v9 v1) = 0 then
        XL_law_L1055 F sl sc rc23 l1 l2 l3 l4 h5
      else
        some (0, h5)
    else
      XL_law_L1055 F sl sc rc23 l1 l2 l3 l4 h5
  else
    some (0, h5)
set_option maxRecDepth 100000 in
theorem SXL_law_L1023 {K : Ctx} {F : Nat} {hf : HP} (sl : Nat) (sc : Nat → Int) (Q : State → Prop) (nm : String) (hSc : ScK K sl sc) (hEnd : ∀ (pc : Nat) (lv : List (Nat × AV)), decode cL_law pc = .ok (.ireturn, 1) → Go K (ML_law nm) Q hf pc lv [vi 1] hf) (rc23 : Option Nat → Option Nat → Option Nat → Int → HP → Option (Int × HP)) (hrc23 : ∀ l1 l2 l3 l4 h, rc23 l1 l2 l3 l4 h = some (1, hf) → Go K (ML_law nm) Q hf 23 [(0, vr (some 4000000)), (1, vr l1), (2, vr l2), (3, vr l3), (4, vi l4)] [] h) (l1 : Option Nat) (l2 : Option Nat) (l3 : Option Nat) (l4 : Int) (l5 : Int) (s0 : Int) (s1 : Int) (s2 : Option Nat) (h : HP) (E : XL_law_L1023 F sl sc rc23 l1 l2 l3 l4 l5 s0 s1 s2 h = some (1, hf)) : Go K (ML_law nm) Q hf 1023 [(0, vr (some 4000000)), (1, vr l1), (2, vr l2), (3, vr l3), (4, vi l4), (5, vi l5)] [vi s0, vi s1, vr s2] h := by
  unfold XL_law_L1023 at E
  replace E := Option.bind_eq_some_iff.mp E; obtain ⟨a3, ea3, E⟩ := E
  obtain ⟨fa3, ga3⟩ := xrc_some ea3
  replace E := xb_some E; obtain ⟨v1, h2, ev1, E⟩ := E
  refine go_callV (y := yX12_words) (n := 1026) (st := []) (as := [vi s1, vi s0]) (stk9 := [vl v1]) (OX12_words ev1) yw_X12_words ci_12 ga3 wml_RL_186 wim_X12_words wse_X12_words (Nat.le_of_ble_eq_true rfl) rfl ⟨Nat.le_of_ble_eq_true rfl, Nat.le_of_ble_eq_true rfl⟩ (Nat.le_of_ble_eq_true rfl) dL_law_1023 rfl (by cases fa3; rfl) rfl ?_
  refine go_lstore (n := 1028) (lv' := [(6, vl v1), (0, vr (some 4000000)), (1, vr l1), (2, vr l2), (3, vr l3), (4, vi l4), (5, vi l5)]) dL_law_1026 rfl (Nat.le_of_ble_eq_true rfl) rfl ?_
  refine go_aload_n (j := 3) (n := 1029) rfl rfl dL_law_1028 rfl ?_
  replace E := Option.bind_eq_some_iff.mp E; obtain ⟨a6, ea6, E⟩ := E
  obtain ⟨fa6, ga6⟩ := xrc_some ea6
  replace E := xb_some E; obtain ⟨v4, h5, ev4, E⟩ := E
  refine go_callV (y := yX12_thrown) (n := 1032) (st := []) (as := []) (stk9 := [vi v4]) (OX12_thrown ev4) yw_X12_thrown ci_12 ga6 wml_RL_146 wim_X12_thrown wse_X12_thrown (Nat.le_of_ble_eq_true rfl) rfl ⟨Nat.le_of_ble_eq_true rfl, Nat.le_of_ble_eq_true rfl⟩ (Nat.le_of_ble_eq_true rfl) dL_law_1029 rfl (by cases fa6; rfl) rfl ?_
  refine go_iload (j := 6) (n := 1034) rfl dL_law_1032 rfl ?_
  refine go_icmp_eq (tgt := 1039) (n := 1037) dL_law_1034 rfl rfl (fun c7 => ?_) (fun c7 => ?_)
  · rw [if_pos c7] at E
    refine go_iload (j := 6) (n := 1041) rfl dL_law_1039 rfl ?_
    refine go_if_ne (tgt := 1055) (n := 1044) dL_law_1041 rfl rfl (fun c8 => ?_) (fun c8 => ?_)
    · rw [if_neg c8] at E
      refine go_pick (lv' := [(0, vr (some 4000000)), (1, vr l1), (2, vr l2), (3, vr l3), (4, vi l4)]) [1, 2, 3, 4, 5] rfl ?_
      exact SXL_law_L1055 sl sc Q nm hSc hEnd _ hrc23 _ _ _ _  _ E
    · rw [if_pos c8] at E
      refine go_aload_n (j := 4) (n := 1045) rfl rfl dL_law_1044 rfl ?_
      refine go_iconst (z := 0) (n := 1046) ⟨by decide, by decide⟩ dL_law_1045 rfl ?_
      replace E := Option.bind_eq_some_iff.mp E; obtain ⟨v9, ev9, E⟩ := E
      refine go_laload (n := 1047) ev9 dL_law_1046 rfl ?_
      refine go_lload (j := 0) (n := 1049) rfl dL_law_1047 rfl ?_
      refine go_lcmp (n := 1050) dL_law_1049 rfl ?_
      refine go_if_eq (tgt := 1055) (n := 1053) dL_law_1050 rfl rfl (fun c10 => ?_) (fun c10 => ?_)
      · rw [if_pos c10] at E
        refine go_pick (lv' := [(0, vr (some 4000000)), (1, vr l1), (2, vr l2), (3, vr l3), (4, vi l4)]) [1, 2, 3, 4, 5] rfl ?_
        exact SXL_law_L1055 sl sc Q nm hSc hEnd _ hrc23 _ _ _ _  _ E
      · rw [if_neg c10] at E
        refine go_iconst (z := 0) (n := 1054) ⟨by decide, by decide⟩ dL_law_1053 rfl ?_
        exact absurd (Prod.mk.inj (Option.some.inj E)).1 (by decide)
  · rw [if_neg c7] at E
    refine go_iconst (z := 0) (n := 1038) ⟨by decide, by decide⟩ dL_law_1037 rfl ?_
    exact absurd (Prod.mk.inj (Option.some.inj E)).1 (by decide)
noncomputable def XL_law_L996 (F : Nat) (sl : Nat) (sc : Nat → Int) (rc23 : Option Nat → Option Nat → Option Nat → Int → HP → Option (Int × HP)) (l1 : Option Nat) (l2 : Option Nat) (l3 : Option Nat) (l4 : Int) (s0 : Int) (s1 : Int) (s2 : Option Nat) (h : HP) : Option (Int × HP) :=
  xb (XL_words F s2 s1 s0 l3 h) fun v1 h2 =>
  (xsc sl sc (w32 (l4 + 1))).bind fun v3 =>
  (xsc sl sc (w32 (l4 + 2))).bind fun v4 =>
  XL_law_L1023 F sl sc rc23 l1 l2 l3 l4 v1 (if v4 = 0 then 0 else 1) v3 l2 h2
set_option maxRecDepth 100000 in
theorem SXL_law_L996 {K : Ctx} {F : Nat} {hf : HP} (sl : Nat) (sc : Nat → Int) (Q : State → Prop) (nm : String) (hSc : ScK K sl sc) (hEnd : ∀ (pc : Nat) (lv : List (Nat × AV)), decode cL_law pc = .ok (.ireturn, 1) → Go K (ML_law nm) Q hf pc lv [vi 1] hf) (rc23 : Option Nat → Option Nat → Option Nat → Int → HP → Option (Int × HP)) (hrc23 : ∀ l1 l2 l3 l4 h, rc23 l1 l2 l3 l4 h = some (1, hf) → Go K (ML_law nm) Q hf 23 [(0, vr (some 4000000)), (1, vr l1), (2, vr l2), (3, vr l3), (4, vi l4)] [] h) (l1 : Option Nat) (l2 : Option Nat) (l3 : Option Nat) (l4 : Int) (s0 : Int) (s1 : Int) (s2 : Option Nat) (h : HP) (E : XL_law_L996 F sl sc rc23 l1 l2 l3 l4 s0 s1 s2 h = some (1, hf)) : Go K (ML_law nm) Q hf 996 [(0, vr (some 4000000)), (1, vr l1), (2, vr l2), (3, vr l3), (4, vi l4)] [vi s0, vi s1, vr s2] h := by
  unfold XL_law_L996 at E
  refine go_aload_n (j := 3) (n := 997) rfl rfl dL_law_996 rfl ?_
  replace E := xb_some E; obtain ⟨v1, h2, ev1, E⟩ := E
  refine go_callSW (y := yL_words) (n := 1000) (st := []) (as := [vr s2, vi s1, vi s0, vr l3]) (stk9 := [vi v1]) (OXL_words ev1) yw_L_words wml_RL_183 wst_L_words (Nat.le_of_ble_eq_true rfl) rfl ⟨Nat.le_of_ble_eq_true rfl, Nat.le_of_ble_eq_true rfl⟩ (Nat.le_of_ble_eq_true rfl) dL_law_997 rfl rfl rfl ?_
  refine go_istore (n := 1002) (lv' := [(5, vi v1), (0, vr (some 4000000)), (1, vr l1), (2, vr l2), (3, vr l3), (4, vi l4)]) dL_law_1000 rfl (Nat.le_of_ble_eq_true rfl) rfl ?_
  refine go_aload_n (j := 3) (n := 1003) rfl rfl dL_law_1002 rfl ?_
  refine go_aload_n (j := 1) (n := 1004) rfl rfl dL_law_1003 rfl ?_
  refine go_iload (j := 5) (n := 1006) rfl dL_law_1004 rfl ?_
  refine go_iconst (z := 1) (n := 1007) ⟨by decide, by decide⟩ dL_law_1006 rfl ?_
  refine go_iadd (n := 1008) dL_law_1007 rfl ?_
  replace E := Option.bind_eq_some_iff.mp E; obtain ⟨v3, ev3, E⟩ := E
  refine go_sld (n := 1009) hSc ev3 dL_law_1008 rfl ?_
  refine go_aload_n (j := 1) (n := 1010) rfl rfl dL_law_1009 rfl ?_
  refine go_iload (j := 5) (n := 1012) rfl dL_law_1010 rfl ?_
  refine go_iconst (z := 2) (n := 1013) ⟨by decide, by decide⟩ dL_law_1012 rfl ?_
  refine go_iadd (n := 1014) dL_law_1013 rfl ?_
  replace E := Option.bind_eq_some_iff.mp E; obtain ⟨v4, ev4, E⟩ := E
  refine go_sld (n := 1015) hSc ev4 dL_law_1014 rfl ?_
  refine go_if_eq (tgt := 1022) (n := 1018) dL_law_1015 rfl rfl (fun c5 => ?_) (fun c5 => ?_)
  · simp only [if_pos c5] at E
    refine go_iconst (z := 0) (n := 1023) ⟨by decide, by decide⟩ dL_law_1022 rfl ?_
    refine go_pick (lv' := [(0, vr (some 4000000)), (1, vr l1), (2, vr l2), (3, vr l3), (4, vi l4), (5, vi v1)]) [1, 2, 3, 4, 5, 0] rfl ?_
    exact SXL_law_L1023 sl sc Q nm hSc hEnd _ hrc23 _ _ _ _ _ _ _ _ _ E
  · simp only [if_neg c5] at E
    refine go_iconst (z := 1) (n := 1019) ⟨by decide, by decide⟩ dL_law_1018 rfl ?_
    refine go_goto (tgt := 1023) dL_law_1019 rfl ?_
    refine go_pick (lv' := [(0, vr (some 4000000)), (1, vr l1), (2, vr l2), (3, vr l3), (4, vi l4), (5, vi v1)]) [1, 2, 3, 4, 5, 0] rfl ?_
    exact SXL_law_L1023 sl sc Q nm hSc hEnd _ hrc23 _ _ _ _ _ _ _ _ _ E
noncomputable def XL_law_L975 (F : Nat) (sl : Nat) (sc : Nat → Int) (rc23 : Option Nat → Option Nat → Option Nat → Int → HP → Option (Int × HP)) (l1 : Option Nat) (l2 : Option Nat) (l3 : Option Nat) (l4 : Int)  (h : HP) : Option (Int × HP) :=
  (xsc sl sc (w32 (l4 + 1))).bind fun v1 =>
  (xsc sl sc (w32 (l4 + 2))).bind fun v2 =>
  XL_law_L996 F sl sc rc23 l1 l2 l3 l4 (if v2 = 0 then 0 else 1) v1 l1 h
set_option maxRecDepth 100000 in
theorem SXL_law_L975 {K : Ctx} {F : Nat} {hf : HP} (sl : Nat) (sc : Nat → Int) (Q : State → Prop) (nm : String) (hSc : ScK K sl sc) (hEnd : ∀ (pc : Nat) (lv : List (Nat × AV)), decode cL_law pc = .ok (.ireturn, 1) → Go K (ML_law nm) Q hf pc lv [vi 1] hf) (rc23 : Option Nat → Option Nat → Option Nat → Int → HP → Option (Int × HP)) (hrc23 : ∀ l1 l2 l3 l4 h, rc23 l1 l2 l3 l4 h = some (1, hf) → Go K (ML_law nm) Q hf 23 [(0, vr (some 4000000)), (1, vr l1), (2, vr l2), (3, vr l3), (4, vi l4)] [] h) (l1 : Option Nat) (l2 : Option Nat) (l3 : Option Nat) (l4 : Int)  (h : HP) (E : XL_law_L975 F sl sc rc23 l1 l2 l3 l4 h = some (1, hf)) : Go K (ML_law nm) Q hf 975 [(0, vr (some 4000000)), (1, vr l1), (2, vr l2), (3, vr l3), (4, vi l4)] [] h := by
  unfold XL_law_L975 at E
  refine go_aload_n (j := 1) (n := 976) rfl rfl dL_law_975 rfl ?_
  refine go_aload_n (j := 0) (n := 977) rfl rfl dL_law_976 rfl ?_
  refine go_iload (j := 4) (n := 979) rfl dL_law_977 rfl ?_
  refine go_iconst (z := 1) (n := 980) ⟨by decide, by decide⟩ dL_law_979 rfl ?_
  refine go_iadd (n := 981) dL_law_980 rfl ?_
  replace E := Option.bind_eq_some_iff.mp E; obtain ⟨v1, ev1, E⟩ := E
  refine go_sld (n := 982) hSc ev1 dL_law_981 rfl ?_
  refine go_aload_n (j := 0) (n := 983) rfl rfl dL_law_982 rfl ?_
  refine go_iload (j := 4) (n := 985) rfl dL_law_983 rfl ?_
  refine go_iconst (z := 2) (n := 986) ⟨by decide, by decide⟩ dL_law_985 rfl ?_
  refine go_iadd (n := 987) dL_law_986 rfl ?_
  replace E := Option.bind_eq_some_iff.mp E; obtain ⟨v2, ev2, E⟩ := E
  refine go_sld (n := 988) hSc ev2 dL_law_987 rfl ?_
  refine go_if_eq (tgt := 995) (n := 991) dL_law_988 rfl rfl (fun c3 => ?_) (fun c3 => ?_)
  · simp only [if_pos c3] at E
    refine go_iconst (z := 0) (n := 996) ⟨by decide, by decide⟩ dL_law_995 rfl ?_
    exact SXL_law_L996 sl sc Q nm hSc hEnd _ hrc23 _ _ _ _ _ _ _ _ E
  · simp only [if_neg c3] at E
    refine go_iconst (z := 1) (n := 992) ⟨by decide, by decide⟩ dL_law_991 rfl ?_
    refine go_goto (tgt := 996) dL_law_992 rfl ?_
    exact SXL_law_L996 sl sc Q nm hSc hEnd _ hrc23 _ _ _ _ _ _ _ _ E
noncomputable def XL_law_L1111 (F : Nat) (sl : Nat) (sc : Nat → Int) (rc23 : Option Nat → Option Nat → Option Nat → Int → HP → Option (Int × HP)) (l1 : Option Nat) (l2 : Option Nat) (l3 : Option Nat) (l4 : Int)  (h : HP) : Option (Int × HP) :=
  XL_law_L2868 F sl sc rc23 l1 l2 l3 l4 h
set_option maxRecDepth 100000 in
theorem SXL_law_L1111 {K : Ctx} {F : Nat} {hf : HP} (sl : Nat) (sc : Nat → Int) (Q : State → Prop) (nm : String) (hSc : ScK K sl sc) (hEnd : ∀ (pc : Nat) (lv : List (Nat × AV)), decode cL_law pc = .ok (.ireturn, 1) → Go K (ML_law nm) Q hf pc lv [vi 1] hf) (rc23 : Option Nat → Option Nat → Option Nat → Int → HP → Option (Int × HP)) (hrc23 : ∀ l1 l2 l3 l4 h, rc23 l1 l2 l3 l4 h = some (1, hf) → Go K (ML_law nm) Q hf 23 [(0, vr (some 4000000)), (1, vr l1), (2, vr l2), (3, vr l3), (4, vi l4)] [] h) (l1 : Option Nat) (l2 : Option Nat) (l3 : Option Nat) (l4 : Int)  (h : HP) (E : XL_law_L1111 F sl sc rc23 l1 l2 l3 l4 h = some (1, hf)) : Go K (ML_law nm) Q hf 1111 [(0, vr (some 4000000)), (1, vr l1), (2, vr l2), (3, vr l3), (4, vi l4)] [] h := by
  unfold XL_law_L1111 at E
  refine go_goto (tgt := 2868) dL_law_1111 rfl ?_
  exact SXL_law_L2868 sl sc Q nm hSc hEnd _ hrc23 _ _ _ _  _ E
noncomputable def XL_law_L1058 (F : Nat) (sl : Nat) (sc : Nat → Int) (rc23 : Option Nat → Option Nat → Option Nat → Int → HP → Option (Int × HP)) (l1 : Option Nat) (l2 : Option Nat) (l3 : Option Nat) (l4 : Int)  (h : HP) : Option (Int × HP) :=
  (xsc sl sc (w32 (l4 + 1))).bind fun v1 =>
  xb (XL_leans F l1 v1 l3 h) fun v2 h3 =>
  (xsc sl sc (w32 (l4 + 1))).bind fun v4 =>
  (xrc h3 l2 12 31).bind fun a7 =>
  xb (X12_leans F a7 v4 h3) fun v5 h6 =>
  (xrc h6 l2 12 31).bind fun a10 =>
  xb (X12_thrown F a10 h6) fun v8 h9 =>
  if v8 = v2 then
    if v2 = 0 then
      (xaJ h9 l3 0).bind fun v13 =>
      if (xcmp v13 v5) = 0 then
        XL_law_L1111 F sl sc rc23 l1 l2 l3 l4 h9
      else
        some (0, h9)
    else
      XL_law_L1111 F sl sc rc23 l1 l2 l3 l4 h9
  else
    some (0, h9)
set_option maxRecDepth 100000 in
theorem SXL_law_L1058 {K : Ctx} {F : Nat} {hf : HP} (sl : Nat) (sc : Nat → Int) (Q : State → Prop) (nm : String) (hSc : ScK K sl sc) (hEnd : ∀ (pc : Nat) (lv : List (Nat × AV)), decode cL_law pc = .ok (.ireturn, 1) → Go K (ML_law nm) Q hf pc lv [vi 1] hf) (rc23 : Option Nat → Option Nat → Option Nat → Int → HP → Option (Int × HP)) (hrc23 : ∀ l1 l2 l3 l4 h, rc23 l1 l2 l3 l4 h = some (1, hf) → Go K (ML_law nm) Q hf 23 [(0, vr (some 4000000)), (1, vr l1), (2, vr l2), (3, vr l3), (4, vi l4)] [] h) (l1 : Option Nat) (l2 : Option Nat) (l3 : Option Nat) (l4 : Int)  (h : HP) (E : XL_law_L1058 F sl sc rc23 l1 l2 l3 l4 h = some (1, hf)) : Go K (ML_law nm) Q hf 1058 [(0, vr (some 4000000)), (1, vr l1), (2, vr l2), (3, vr l3), (4, vi l4)] [] h := by
  unfold XL_law_L1058 at E
  refine go_aload_n (j := 1) (n := 1059) rfl rfl dL_law_1058 rfl ?_
  refine go_aload_n (j := 0) (n := 1060) rfl rfl dL_law_1059 rfl ?_
  refine go_iload (j := 4) (n := 1062) rfl dL_law_1060 rfl ?_
  refine go_iconst (z := 1) (n := 1063) ⟨by decide, by decide⟩ dL_law_1062 rfl ?_
  refine go_iadd (n := 1064) dL_law_1063 rfl ?_
  replace E := Option.bind_eq_some_iff.mp E; obtain ⟨v1, ev1, E⟩ := E
  refine go_sld (n := 1065) hSc ev1 dL_law_1064 rfl ?_
  refine go_aload_n (j := 3) (n := 1066) rfl rfl dL_law_1065 rfl ?_
  replace E := xb_some E; obtain ⟨v2, h3, ev2, E⟩ := E
  refine go_callSW (y := yL_leans) (n := 1069) (st := []) (as := [vr l1, vi v1, vr l3]) (stk9 := [vi v2]) (OXL_leans ev2) yw_L_leans wml_RL_187 wst_L_leans (Nat.le_of_ble_eq_true rfl) rfl ⟨Nat.le_of_ble_eq_true rfl, Nat.le_of_ble_eq_true rfl⟩ (Nat.le_of_ble_eq_true rfl) dL_law_1066 rfl rfl rfl ?_
  refine go_istore (n := 1071) (lv' := [(5, vi v2), (0, vr (some 4000000)), (1, vr l1), (2, vr l2), (3, vr l3), (4, vi l4)]) dL_law_1069 rfl (Nat.le_of_ble_eq_true rfl) rfl ?_
  refine go_aload_n (j := 3) (n := 1072) rfl rfl dL_law_1071 rfl ?_
  refine go_aload_n (j := 1) (n := 1073) rfl rfl dL_law_1072 rfl ?_
  refine go_iload (j := 5) (n := 1075) rfl dL_law_1073 rfl ?_
  refine go_iconst (z := 1) (n := 1076) ⟨by decide, by decide⟩ dL_law_1075 rfl ?_
  refine go_iadd (n := 1077) dL_law_1076 rfl ?_
  replace E := Option.bind_eq_some_iff.mp E; obtain ⟨v4, ev4, E⟩ := E
  refine go_sld (n := 1078) hSc ev4 dL_law_1077 rfl ?_
  replace E := Option.bind_eq_some_iff.mp E; obtain ⟨a7, ea7, E⟩ := E
  obtain ⟨fa7, ga7⟩ := xrc_some ea7
  replace E := xb_some E; obtain ⟨v5, h6, ev5, E⟩ := E
  refine go_callV (y := yX12_leans) (n := 1081) (st := []) (as := [vi v4]) (stk9 := [vi v5]) (OX12_leans ev5) yw_X12_leans ci_12 ga7 wml_RL_189 wim_X12_leans wse_X12_leans (Nat.le_of_ble_eq_true rfl) rfl ⟨Nat.le_of_ble_eq_true rfl, Nat.le_of_ble_eq_true rfl⟩ (Nat.le_of_ble_eq_true rfl) dL_law_1078 rfl (by cases fa7; rfl) rfl ?_
  refine go_istore (n := 1083) (lv' := [(6, vi v5), (5, vi v2), (0, vr (some 4000000)), (1, vr l1), (2, vr l2), (3, vr l3), (4, vi l4)]) dL_law_1081 rfl (Nat.le_of_ble_eq_true rfl) rfl ?_
  refine go_aload_n (j := 4) (n := 1084) rfl rfl dL_law_1083 rfl ?_
  replace E := Option.bind_eq_some_iff.mp E; obtain ⟨a10, ea10, E⟩ := E
  obtain ⟨fa10, ga10⟩ := xrc_some ea10
  replace E := xb_some E; obtain ⟨v8, h9, ev8, E⟩ := E
  refine go_callV (y := yX12_thrown) (n := 1087) (st := []) (as := []) (stk9 := [vi v8]) (OX12_thrown ev8) yw_X12_thrown ci_12 ga10 wml_RL_146 wim_X12_thrown wse_X12_thrown (Nat.le_of_ble_eq_true rfl) rfl ⟨Nat.le_of_ble_eq_true rfl, Nat.le_of_ble_eq_true rfl⟩ (Nat.le_of_ble_eq_true rfl) dL_law_1084 rfl (by cases fa10; rfl) rfl ?_
  refine go_iload (j := 1) (n := 1089) rfl dL_law_1087 rfl ?_
  refine go_icmp_eq (tgt := 1094) (n := 1092) dL_law_1089 rfl rfl (fun c11 => ?_) (fun c11 => ?_)
  · rw [if_pos c11] at E
    refine go_iload (j := 1) (n := 1096) rfl dL_law_1094 rfl ?_
    refine go_if_ne (tgt := 1111) (n := 1099) dL_law_1096 rfl rfl (fun c12 => ?_) (fun c12 => ?_)
    · rw [if_neg c12] at E
      refine go_pick (lv' := [(0, vr (some 4000000)), (1, vr l1), (2, vr l2), (3, vr l3), (4, vi l4)]) [2, 3, 4, 5, 6] rfl ?_
      exact SXL_law_L1111 sl sc Q nm hSc hEnd _ hrc23 _ _ _ _  _ E
    · rw [if_pos c12] at E
      refine go_aload_n (j := 5) (n := 1100) rfl rfl dL_law_1099 rfl ?_
      refine go_iconst (z := 0) (n := 1101) ⟨by decide, by decide⟩ dL_law_1100 rfl ?_
      replace E := Option.bind_eq_some_iff.mp E; obtain ⟨v13, ev13, E⟩ := E
      refine go_laload (n := 1102) ev13 dL_law_1101 rfl ?_
      refine go_iload (j := 0) (n := 1104) rfl dL_law_1102 rfl ?_
      refine go_i2l (n := 1105) dL_law_1104 rfl ?_
      refine go_lcmp (n := 1106) dL_law_1105 rfl ?_
      refine go_if_eq (tgt := 1111) (n := 1109) dL_law_1106 rfl rfl (fun c14 => ?_) (fun c14 => ?_)
      · rw [if_pos c14] at E
        refine go_pick (lv' := [(0, vr (some 4000000)), (1, vr l1), (2, vr l2), (3, vr l3), (4, vi l4)]) [2, 3, 4, 5, 6] rfl ?_
        exact SXL_law_L1111 sl sc Q nm hSc hEnd _ hrc23 _ _ _ _  _ E
      · rw [if_neg c14] at E
        refine go_iconst (z := 0) (n := 1110) ⟨by decide, by decide⟩ dL_law_1109 rfl ?_
        exact absurd (Prod.mk.inj (Option.some.inj E)).1 (by decide)
  · rw [if_neg c11] at E
    refine go_iconst (z := 0) (n := 1093) ⟨by decide, by decide⟩ dL_law_1092 rfl ?_
    exact absurd (Prod.mk.inj (Option.some.inj E)).1 (by decide)
noncomputable def XL_law_L1114 (F : Nat) (sl : Nat) (sc : Nat → Int) (rc23 : Option Nat → Option Nat → Option Nat → Int → HP → Option (Int × HP)) (l1 : Option Nat) (l2 : Option Nat) (l3 : Option Nat) (l4 : Int)  (h : HP) : Option (Int × HP) :=
  (xsc sl sc (w32 (l4 + 1))).bind fun v1 =>
  (xrc h l1 11 6).bind fun a4 =>
  xb (X11_quarrel F a4 v1 h) fun v2 h3 =>
  (xsc sl sc (w32 (l4 + 1))).bind fun v5 =>
  (xrc h3 l2 12 31).bind fun a8 =>
  xb (X12_quarrel F a8 v5 h3) fun v6 h7 =>
  if v2 = v6 then
    XL_law_L2868 F sl sc rc23 l1 l2 l3 l4 h7
  else
    some (0, h7)
set_option maxRecDepth 100000 in
theorem SXL_law_L1114 {K : Ctx} {F : Nat} {hf : HP} (sl : Nat) (sc : Nat → Int) (Q : State → Prop) (nm : String) (hSc : ScK K sl sc) (hEnd : ∀ (pc : Nat) (lv : List (Nat × AV)), decode cL_law pc = .ok (.ireturn, 1) → Go K (ML_law nm) Q hf pc lv [vi 1] hf) (rc23 : Option Nat → Option Nat → Option Nat → Int → HP → Option (Int × HP)) (hrc23 : ∀ l1 l2 l3 l4 h, rc23 l1 l2 l3 l4 h = some (1, hf) → Go K (ML_law nm) Q hf 23 [(0, vr (some 4000000)), (1, vr l1), (2, vr l2), (3, vr l3), (4, vi l4)] [] h) (l1 : Option Nat) (l2 : Option Nat) (l3 : Option Nat) (l4 : Int)  (h : HP) (E : XL_law_L1114 F sl sc rc23 l1 l2 l3 l4 h = some (1, hf)) : Go K (ML_law nm) Q hf 1114 [(0, vr (some 4000000)), (1, vr l1), (2, vr l2), (3, vr l3), (4, vi l4)] [] h := by
  unfold XL_law_L1114 at E
  refine go_aload_n (j := 1) (n := 1115) rfl rfl dL_law_1114 rfl ?_
  refine go_aload_n (j := 0) (n := 1116) rfl rfl dL_law_1115 rfl ?_
  refine go_iload (j := 4) (n := 1118) rfl dL_law_1116 rfl ?_
  refine go_iconst (z := 1) (n := 1119) ⟨by decide, by decide⟩ dL_law_1118 rfl ?_
  refine go_iadd (n := 1120) dL_law_1119 rfl ?_
  replace E := Option.bind_eq_some_iff.mp E; obtain ⟨v1, ev1, E⟩ := E
  refine go_sld (n := 1121) hSc ev1 dL_law_1120 rfl ?_
  replace E := Option.bind_eq_some_iff.mp E; obtain ⟨a4, ea4, E⟩ := E
  obtain ⟨fa4, ga4⟩ := xrc_some ea4
  replace E := xb_some E; obtain ⟨v2, h3, ev2, E⟩ := E
  refine go_callV (y := yX11_quarrel) (n := 1124) (st := []) (as := [vi v1]) (stk9 := [vi v2]) (OX11_quarrel ev2) yw_X11_quarrel ci_11 ga4 wml_RL_190 wim_X11_quarrel wse_X11_quarrel (Nat.le_of_ble_eq_true rfl) rfl ⟨Nat.le_of_ble_eq_true rfl, Nat.le_of_ble_eq_true rfl⟩ (Nat.le_of_ble_eq_true rfl) dL_law_1121 rfl (by cases fa4; rfl) rfl ?_
  refine go_aload_n (j := 2) (n := 1125) rfl rfl dL_law_1124 rfl ?_
  refine go_aload_n (j := 0) (n := 1126) rfl rfl dL_law_1125 rfl ?_
  refine go_iload (j := 4) (n := 1128) rfl dL_law_1126 rfl ?_
  refine go_iconst (z := 1) (n := 1129) ⟨by decide, by decide⟩ dL_law_1128 rfl ?_
  refine go_iadd (n := 1130) dL_law_1129 rfl ?_
  replace E := Option.bind_eq_some_iff.mp E; obtain ⟨v5, ev5, E⟩ := E
  refine go_sld (n := 1131) hSc ev5 dL_law_1130 rfl ?_
  replace E := Option.bind_eq_some_iff.mp E; obtain ⟨a8, ea8, E⟩ := E
  obtain ⟨fa8, ga8⟩ := xrc_some ea8
  replace E := xb_some E; obtain ⟨v6, h7, ev6, E⟩ := E
  refine go_callV (y := yX12_quarrel) (n := 1134) (st := [vi v2]) (as := [vi v5]) (stk9 := [vi v6, vi v2]) (OX12_quarrel ev6) yw_X12_quarrel ci_12 ga8 wml_RL_193 wim_X12_quarrel wse_X12_quarrel (Nat.le_of_ble_eq_true rfl) rfl ⟨Nat.le_of_ble_eq_true rfl, Nat.le_of_ble_eq_true rfl⟩ (Nat.le_of_ble_eq_true rfl) dL_law_1131 rfl (by cases fa8; rfl) rfl ?_
  refine go_icmp_eq (tgt := 2868) (n := 1137) dL_law_1134 rfl rfl (fun c9 => ?_) (fun c9 => ?_)
  · rw [if_pos c9] at E
    exact SXL_law_L2868 sl sc Q nm hSc hEnd _ hrc23 _ _ _ _  _ E
  · rw [if_neg c9] at E
    refine go_iconst (z := 0) (n := 1138) ⟨by decide, by decide⟩ dL_law_1137 rfl ?_
    exact absurd (Prod.mk.inj (Option.some.inj E)).1 (by decide)
noncomputable def XL_law_L1139 (F : Nat) (sl : Nat) (sc : Nat → Int) (rc23 : Option Nat → Option Nat → Option Nat → Int → HP → Option (Int × HP)) (l1 : Option Nat) (l2 : Option Nat) (l3 : Option Nat) (l4 : Int)  (h : HP) : Option (Int × HP) :=
  (xsc sl sc (w32 (l4 + 1))).bind fun v1 =>
  (xrc h l1 11 6).bind fun a4 =>
  xb (X11_order F a4 v1 h) fun v2 h3 =>
  (xsc sl sc (w32 (l4 + 1))).bind fun v5 =>
  (xrc h3 l2 12 31).bind fun a8 =>
  xb (X12_order F a8 v5 h3) fun v6 h7 =>
  if v2 = v6 then
    XL_law_L2868 F sl sc rc23 l1 l2 l3 l4 h7
  else
    some (0, h7)
set_option maxRecDepth 100000 in
theorem SXL_law_L1139 {K : Ctx} {F : Nat} {hf : HP} (sl : Nat) (sc : Nat → Int) (Q : State → Prop) (nm : String) (hSc : ScK K sl sc) (hEnd : ∀ (pc : Nat) (lv : List (Nat × AV)), decode cL_law pc = .ok (.ireturn, 1) → Go K (ML_law nm) Q hf pc lv [vi 1] hf) (rc23 : Option Nat → Option Nat → Option Nat → Int → HP → Option (Int × HP)) (hrc23 : ∀ l1 l2 l3 l4 h, rc23 l1 l2 l3 l4 h = some (1, hf) → Go K (ML_law nm) Q hf 23 [(0, vr (some 4000000)), (1, vr l1), (2, vr l2), (3, vr l3), (4, vi l4)] [] h) (l1 : Option Nat) (l2 : Option Nat) (l3 : Option Nat) (l4 : Int)  (h : HP) (E : XL_law_L1139 F sl sc rc23 l1 l2 l3 l4 h = some (1, hf)) : Go K (ML_law nm) Q hf 1139 [(0, vr (some 4000000)), (1, vr l1), (2, vr l2), (3, vr l3), (4, vi l4)] [] h := by
  unfold XL_law_L1139 at E
  refine go_aload_n (j := 1) (n := 1140) rfl rfl dL_law_1139 rfl ?_
  refine go_aload_n (j := 0) (n := 1141) rfl rfl dL_law_1140 rfl ?_
  refine go_iload (j := 4) (n := 1143) rfl dL_law_1141 rfl ?_
  refine go_iconst (z := 1) (n := 1144) ⟨by decide, by decide⟩ dL_law_1143 rfl ?_
  refine go_iadd (n := 1145) dL_law_1144 rfl ?_
  replace E := Option.bind_eq_some_iff.mp E; obtain ⟨v1, ev1, E⟩ := E
  refine go_sld (n := 1146) hSc ev1 dL_law_1145 rfl ?_
  replace E := Option.bind_eq_some_iff.mp E; obtain ⟨a4, ea4, E⟩ := E
  obtain ⟨fa4, ga4⟩ := xrc_some ea4
  replace E := xb_some E; obtain ⟨v2, h3, ev2, E⟩ := E
  refine go_callV (y := yX11_order) (n := 1149) (st := []) (as := [vi v1]) (stk9 := [vi v2]) (OX11_order ev2) yw_X11_order ci_11 ga4 wml_RL_194 wim_X11_order wse_X11_order (Nat.le_of_ble_eq_true rfl) rfl ⟨Nat.le_of_ble_eq_true rfl, Nat.le_of_ble_eq_true rfl⟩ (Nat.le_of_ble_eq_true rfl) dL_law_1146 rfl (by cases fa4; rfl) rfl ?_
  refine go_aload_n (j := 2) (n := 1150) rfl rfl dL_law_1149 rfl ?_
  refine go_aload_n (j := 0) (n := 1151) rfl rfl dL_law_1150 rfl ?_
  refine go_iload (j := 4) (n := 1153) rfl dL_law_1151 rfl ?_
  refine go_iconst (z := 1) (n := 1154) ⟨by decide, by decide⟩ dL_law_1153 rfl ?_
  refine go_iadd (n := 1155) dL_law_1154 rfl ?_
  replace E := Option.bind_eq_some_iff.mp E; obtain ⟨v5, ev5, E⟩ := E
  refine go_sld (n := 1156) hSc ev5 dL_law_1155 rfl ?_
  replace E := Option.bind_eq_some_iff.mp E; obtain ⟨a8, ea8, E⟩ := E
  obtain ⟨fa8, ga8⟩ := xrc_some ea8
  replace E := xb_some E; obtain ⟨v6, h7, ev6, E⟩ := E
  refine go_callV (y := yX12_order) (n := 1159) (st := [vi v2]) (as := [vi v5]) (stk9 := [vi v6, vi v2]) (OX12_order ev6) yw_X12_order ci_12 ga8 wml_RL_197 wim_X12_order wse_X12_order (Nat.le_of_ble_eq_true rfl) rfl ⟨Nat.le_of_ble_eq_true rfl, Nat.le_of_ble_eq_true rfl⟩ (Nat.le_of_ble_eq_true rfl) dL_law_1156 rfl (by cases fa8; rfl) rfl ?_
  refine go_icmp_eq (tgt := 2868) (n := 1162) dL_law_1159 rfl rfl (fun c9 => ?_) (fun c9 => ?_)
  · rw [if_pos c9] at E
    exact SXL_law_L2868 sl sc Q nm hSc hEnd _ hrc23 _ _ _ _  _ E
  · rw [if_neg c9] at E
    refine go_iconst (z := 0) (n := 1163) ⟨by decide, by decide⟩ dL_law_1162 rfl ?_
    exact absurd (Prod.mk.inj (Option.some.inj E)).1 (by decide)
noncomputable def XL_law_L1236 (F : Nat) (sl : Nat) (sc : Nat → Int) (rc23 : Option Nat → Option Nat → Option Nat → Int → HP → Option (Int × HP)) (l1 : Option Nat) (l2 : Option Nat) (l3 : Option Nat) (l4 : Int)  (h : HP) : Option (Int × HP) :=
  XL_law_L2868 F sl sc rc23 l1 l2 l3 l4 h
set_option maxRecDepth 100000 in
theorem SXL_law_L1236 {K : Ctx} {F : Nat} {hf : HP} (sl : Nat) (sc : Nat → Int) (Q : State → Prop) (nm : String) (hSc : ScK K sl sc) (hEnd : ∀ (pc : Nat) (lv : List (Nat × AV)), decode cL_law pc = .ok (.ireturn, 1) → Go K (ML_law nm) Q hf pc lv [vi 1] hf) (rc23 : Option Nat → Option Nat → Option Nat → Int → HP → Option (Int × HP)) (hrc23 : ∀ l1 l2 l3 l4 h, rc23 l1 l2 l3 l4 h = some (1, hf) → Go K (ML_law nm) Q hf 23 [(0, vr (some 4000000)), (1, vr l1), (2, vr l2), (3, vr l3), (4, vi l4)] [] h) (l1 : Option Nat) (l2 : Option Nat) (l3 : Option Nat) (l4 : Int)  (h : HP) (E : XL_law_L1236 F sl sc rc23 l1 l2 l3 l4 h = some (1, hf)) : Go K (ML_law nm) Q hf 1236 [(0, vr (some 4000000)), (1, vr l1), (2, vr l2), (3, vr l3), (4, vi l4)] [] h := by
  unfold XL_law_L1236 at E
  refine go_goto (tgt := 2868) dL_law_1236 rfl ?_
  exact SXL_law_L2868 sl sc Q nm hSc hEnd _ hrc23 _ _ _ _  _ E
noncomputable def XL_law_L1230 (F : Nat) (sl : Nat) (sc : Nat → Int) (rc23 : Option Nat → Option Nat → Option Nat → Int → HP → Option (Int × HP)) (l1 : Option Nat) (l2 : Option Nat) (l3 : Option Nat) (l4 : Int) (s0 : Int) (s1 : Int) (h : HP) : Option (Int × HP) :=
  if (xcmp s1 s0) = 0 then
    XL_law_L1236 F sl sc rc23 l1 l2 l3 l4 h
  else
    some (0, h)
set_option maxRecDepth 100000 in
theorem SXL_law_L1230 {K : Ctx} {F : Nat} {hf : HP} (sl : Nat) (sc : Nat → Int) (Q : State → Prop) (nm : String) (hSc : ScK K sl sc) (hEnd : ∀ (pc : Nat) (lv : List (Nat × AV)), decode cL_law pc = .ok (.ireturn, 1) → Go K (ML_law nm) Q hf pc lv [vi 1] hf) (rc23 : Option Nat → Option Nat → Option Nat → Int → HP → Option (Int × HP)) (hrc23 : ∀ l1 l2 l3 l4 h, rc23 l1 l2 l3 l4 h = some (1, hf) → Go K (ML_law nm) Q hf 23 [(0, vr (some 4000000)), (1, vr l1), (2, vr l2), (3, vr l3), (4, vi l4)] [] h) (l1 : Option Nat) (l2 : Option Nat) (l3 : Option Nat) (l4 : Int) (s0 : Int) (s1 : Int) (h : HP) (E : XL_law_L1230 F sl sc rc23 l1 l2 l3 l4 s0 s1 h = some (1, hf)) : Go K (ML_law nm) Q hf 1230 [(0, vr (some 4000000)), (1, vr l1), (2, vr l2), (3, vr l3), (4, vi l4)] [vl s0, vl s1] h := by
  unfold XL_law_L1230 at E
  refine go_lcmp (n := 1231) dL_law_1230 rfl ?_
  refine go_if_eq (tgt := 1236) (n := 1234) dL_law_1231 rfl rfl (fun c1 => ?_) (fun c1 => ?_)
  · rw [if_pos c1] at E
    exact SXL_law_L1236 sl sc Q nm hSc hEnd _ hrc23 _ _ _ _  _ E
  · rw [if_neg c1] at E
    refine go_iconst (z := 0) (n := 1235) ⟨by decide, by decide⟩ dL_law_1234 rfl ?_
    exact absurd (Prod.mk.inj (Option.some.inj E)).1 (by decide)
noncomputable def XL_law_L1164 (F : Nat) (sl : Nat) (sc : Nat → Int) (rc23 : Option Nat → Option Nat → Option Nat → Int → HP → Option (Int × HP)) (l1 : Option Nat) (l2 : Option Nat) (l3 : Option Nat) (l4 : Int)  (h : HP) : Option (Int × HP) :=
  (xsc sl sc (w32 (l4 + 1))).bind fun v1 =>
  (xsc sl sc (w32 (l4 + 2))).bind fun v2 =>
  xb (XL_way F l1 v1 v2 l3 h) fun v3 h4 =>
  (xsc sl sc (w32 (l4 + 1))).bind fun v5 =>
  (xsc sl sc (w32 (l4 + 2))).bind fun v6 =>
  (xrc h4 l2 12 31).bind fun a9 =>
  xb (X12_way F a9 v5 v6 h4) fun v7 h8 =>
  (xrc h8 l2 12 31).bind fun a12 =>
  xb (X12_thrown F a12 h8) fun v10 h11 =>
  if v10 = v3 then
    if v3 = 0 then
      (xaJ h11 l3 0).bind fun v15 =>
      XL_law_L1230 F sl sc rc23 l1 l2 l3 l4 (if v7 = 0 then 0 else 1) v15 h11
    else
      XL_law_L1236 F sl sc rc23 l1 l2 l3 l4 h11
  else
    some (0, h11)
set_option maxRecDepth 100000 in
theorem SXL_law_L1164 {K : Ctx} {F : Nat} {hf : HP} (sl : Nat) (sc : Nat → Int) (Q : State → Prop) (nm : String) (hSc : ScK K sl sc) (hEnd : ∀ (pc : Nat) (lv : List (Nat × AV)), decode cL_law pc = .ok (.ireturn, 1) → Go K (ML_law nm) Q hf pc lv [vi 1] hf) (rc23 : Option Nat → Option Nat → Option Nat → Int → HP → Option (Int × HP)) (hrc23 : ∀ l1 l2 l3 l4 h, rc23 l1 l2 l3 l4 h = some (1, hf) → Go K (ML_law nm) Q hf 23 [(0, vr (some 4000000)), (1, vr l1), (2, vr l2), (3, vr l3), (4, vi l4)] [] h) (l1 : Option Nat) (l2 : Option Nat) (l3 : Option Nat) (l4 : Int)  (h : HP) (E : XL_law_L1164 F sl sc rc23 l1 l2 l3 l4 h = some (1, hf)) : Go K (ML_law nm) Q hf 1164 [(0, vr (some 4000000)), (1, vr l1), (2, vr l2), (3, vr l3), (4, vi l4)] [] h := by
  unfold XL_law_L1164 at E
  refine go_aload_n (j := 1) (n := 1165) rfl rfl dL_law_1164 rfl ?_
  refine go_aload_n (j := 0) (n := 1166) rfl rfl dL_law_1165 rfl ?_
  refine go_iload (j := 4) (n := 1168) rfl dL_law_1166 rfl ?_
  refine go_iconst (z := 1) (n := 1169) ⟨by decide, by decide⟩ dL_law_1168 rfl ?_
  refine go_iadd (n := 1170) dL_law_1169 rfl ?_
  replace E := Option.bind_eq_some_iff.mp E; obtain ⟨v1, ev1, E⟩ := E
  refine go_sld (n := 1171) hSc ev1 dL_law_1170 rfl ?_
  refine go_aload_n (j := 0) (n := 1172) rfl rfl dL_law_1171 rfl ?_
  refine go_iload (j := 4) (n := 1174) rfl dL_law_1172 rfl ?_
  refine go_iconst (z := 2) (n := 1175) ⟨by decide, by decide⟩ dL_law_1174 rfl ?_
  refine go_iadd (n := 1176) dL_law_1175 rfl ?_
  replace E := Option.bind_eq_some_iff.mp E; obtain ⟨v2, ev2, E⟩ := E
  refine go_sld (n := 1177) hSc ev2 dL_law_1176 rfl ?_
  refine go_aload_n (j := 3) (n := 1178) rfl rfl dL_law_1177 rfl ?_
  replace E := xb_some E; obtain ⟨v3, h4, ev3, E⟩ := E
  refine go_callSW (y := yL_way) (n := 1181) (st := []) (as := [vr l1, vi v1, vi v2, vr l3]) (stk9 := [vi v3]) (OXL_way ev3) yw_L_way wml_RL_198 wst_L_way (Nat.le_of_ble_eq_true rfl) rfl ⟨Nat.le_of_ble_eq_true rfl, Nat.le_of_ble_eq_true rfl⟩ (Nat.le_of_ble_eq_true rfl) dL_law_1178 rfl rfl rfl ?_
  refine go_istore (n := 1183) (lv' := [(5, vi v3), (0, vr (some 4000000)), (1, vr l1), (2, vr l2), (3, vr l3), (4, vi l4)]) dL_law_1181 rfl (Nat.le_of_ble_eq_true rfl) rfl ?_
  refine go_aload_n (j := 3) (n := 1184) rfl rfl dL_law_1183 rfl ?_
  refine go_aload_n (j := 1) (n := 1185) rfl rfl dL_law_1184 rfl ?_
  refine go_iload (j := 5) (n := 1187) rfl dL_law_1185 rfl ?_
  refine go_iconst (z := 1) (n := 1188) ⟨by decide, by decide⟩ dL_law_1187 rfl ?_
  refine go_iadd (n := 1189) dL_law_1188 rfl ?_
  replace E := Option.bind_eq_some_iff.mp E; obtain ⟨v5, ev5, E⟩ := E
  refine go_sld (n := 1190) hSc ev5 dL_law_1189 rfl ?_
  refine go_aload_n (j := 1) (n := 1191) rfl rfl dL_law_1190 rfl ?_
  refine go_iload (j := 5) (n := 1193) rfl dL_law_1191 rfl ?_
  refine go_iconst (z := 2) (n := 1194) ⟨by decide, by decide⟩ dL_law_1193 rfl ?_
  refine go_iadd (n := 1195) dL_law_1194 rfl ?_
  replace E := Option.bind_eq_some_iff.mp E; obtain ⟨v6, ev6, E⟩ := E
  refine go_sld (n := 1196) hSc ev6 dL_law_1195 rfl ?_
  replace E := Option.bind_eq_some_iff.mp E; obtain ⟨a9, ea9, E⟩ := E
  obtain ⟨fa9, ga9⟩ := xrc_some ea9
  replace E := xb_some E; obtain ⟨v7, h8, ev7, E⟩ := E
  refine go_callV (y := yX12_way) (n := 1199) (st := []) (as := [vi v5, vi v6]) (stk9 := [vi v7]) (OX12_way ev7) yw_X12_way ci_12 ga9 wml_RL_200 wim_X12_way wse_X12_way (Nat.le_of_ble_eq_true rfl) rfl ⟨Nat.le_of_ble_eq_true rfl, Nat.le_of_ble_eq_true rfl⟩ (Nat.le_of_ble_eq_true rfl) dL_law_1196 rfl (by cases fa9; rfl) rfl ?_
  refine go_istore (n := 1201) (lv' := [(6, vi v7), (5, vi v3), (0, vr (some 4000000)), (1, vr l1), (2, vr l2), (3, vr l3), (4, vi l4)]) dL_law_1199 rfl (Nat.le_of_ble_eq_true rfl) rfl ?_
  refine go_aload_n (j := 4) (n := 1202) rfl rfl dL_law_1201 rfl ?_
  replace E := Option.bind_eq_some_iff.mp E; obtain ⟨a12, ea12, E⟩ := E
  obtain ⟨fa12, ga12⟩ := xrc_some ea12
  replace E := xb_some E; obtain ⟨v10, h11, ev10, E⟩ := E
  refine go_callV (y := yX12_thrown) (n := 1205) (st := []) (as := []) (stk9 := [vi v10]) (OX12_thrown ev10) yw_X12_thrown ci_12 ga12 wml_RL_146 wim_X12_thrown wse_X12_thrown (Nat.le_of_ble_eq_true rfl) rfl ⟨Nat.le_of_ble_eq_true rfl, Nat.le_of_ble_eq_true rfl⟩ (Nat.le_of_ble_eq_true rfl) dL_law_1202 rfl (by cases fa12; rfl) rfl ?_
  refine go_iload (j := 1) (n := 1207) rfl dL_law_1205 rfl ?_
  refine go_icmp_eq (tgt := 1212) (n := 1210) dL_law_1207 rfl rfl (fun c13 => ?_) (fun c13 => ?_)
  · rw [if_pos c13] at E
    refine go_iload (j := 1) (n := 1214) rfl dL_law_1212 rfl ?_
    refine go_if_ne (tgt := 1236) (n := 1217) dL_law_1214 rfl rfl (fun c14 => ?_) (fun c14 => ?_)
    · rw [if_neg c14] at E
      refine go_pick (lv' := [(0, vr (some 4000000)), (1, vr l1), (2, vr l2), (3, vr l3), (4, vi l4)]) [2, 3, 4, 5, 6] rfl ?_
      exact SXL_law_L1236 sl sc Q nm hSc hEnd _ hrc23 _ _ _ _  _ E
    · rw [if_pos c14] at E
      refine go_aload_n (j := 5) (n := 1218) rfl rfl dL_law_1217 rfl ?_
      refine go_iconst (z := 0) (n := 1219) ⟨by decide, by decide⟩ dL_law_1218 rfl ?_
      replace E := Option.bind_eq_some_iff.mp E; obtain ⟨v15, ev15, E⟩ := E
      refine go_laload (n := 1220) ev15 dL_law_1219 rfl ?_
      refine go_iload (j := 0) (n := 1222) rfl dL_law_1220 rfl ?_
      refine go_if_eq (tgt := 1229) (n := 1225) dL_law_1222 rfl rfl (fun c16 => ?_) (fun c16 => ?_)
      · simp only [if_pos c16] at E
        refine go_lconst (w := 0) (n := 1230) rfl dL_law_1229 rfl ?_
        refine go_pick (lv' := [(0, vr (some 4000000)), (1, vr l1), (2, vr l2), (3, vr l3), (4, vi l4)]) [2, 3, 4, 5, 6] rfl ?_
        exact SXL_law_L1230 sl sc Q nm hSc hEnd _ hrc23 _ _ _ _ _ _ _ E
      · simp only [if_neg c16] at E
        refine go_lconst (w := 1) (n := 1226) rfl dL_law_1225 rfl ?_
        refine go_goto (tgt := 1230) dL_law_1226 rfl ?_
        refine go_pick (lv' := [(0, vr (some 4000000)), (1, vr l1), (2, vr l2), (3, vr l3), (4, vi l4)]) [2, 3, 4, 5, 6] rfl ?_
        exact SXL_law_L1230 sl sc Q nm hSc hEnd _ hrc23 _ _ _ _ _ _ _ E
  · rw [if_neg c13] at E
    refine go_iconst (z := 0) (n := 1211) ⟨by decide, by decide⟩ dL_law_1210 rfl ?_
    exact absurd (Prod.mk.inj (Option.some.inj E)).1 (by decide)
noncomputable def XL_law_L1299 (F : Nat) (sl : Nat) (sc : Nat → Int) (rc23 : Option Nat → Option Nat → Option Nat → Int → HP → Option (Int × HP)) (l1 : Option Nat) (l2 : Option Nat) (l3 : Option Nat) (l4 : Int)  (h : HP) : Option (Int × HP) :=
  XL_law_L2868 F sl sc rc23 l1 l2 l3 l4 h
set_option maxRecDepth 100000 in
theorem SXL_law_L1299 {K : Ctx} {F : Nat} {hf : HP} (sl : Nat) (sc : Nat → Int) (Q : State → Prop) (nm : String) (hSc : ScK K sl sc) (hEnd : ∀ (pc : Nat) (lv : List (Nat × AV)), decode cL_law pc = .ok (.ireturn, 1) → Go K (ML_law nm) Q hf pc lv [vi 1] hf) (rc23 : Option Nat → Option Nat → Option Nat → Int → HP → Option (Int × HP)) (hrc23 : ∀ l1 l2 l3 l4 h, rc23 l1 l2 l3 l4 h = some (1, hf) → Go K (ML_law nm) Q hf 23 [(0, vr (some 4000000)), (1, vr l1), (2, vr l2), (3, vr l3), (4, vi l4)] [] h) (l1 : Option Nat) (l2 : Option Nat) (l3 : Option Nat) (l4 : Int)  (h : HP) (E : XL_law_L1299 F sl sc rc23 l1 l2 l3 l4 h = some (1, hf)) : Go K (ML_law nm) Q hf 1299 [(0, vr (some 4000000)), (1, vr l1), (2, vr l2), (3, vr l3), (4, vi l4)] [] h := by
  unfold XL_law_L1299 at E
  refine go_goto (tgt := 2868) dL_law_1299 rfl ?_
  exact SXL_law_L2868 sl sc Q nm hSc hEnd _ hrc23 _ _ _ _  _ E
noncomputable def XL_law_L1293 (F : Nat) (sl : Nat) (sc : Nat → Int) (rc23 : Option Nat → Option Nat → Option Nat → Int → HP → Option (Int × HP)) (l1 : Option Nat) (l2 : Option Nat) (l3 : Option Nat) (l4 : Int) (s0 : Int) (s1 : Int) (h : HP) : Option (Int × HP) :=
  if (xcmp s1 s0) = 0 then
    XL_law_L1299 F sl sc rc23 l1 l2 l3 l4 h
  else
    some (0, h)
set_option maxRecDepth 100000 in
theorem SXL_law_L1293 {K : Ctx} {F : Nat} {hf : HP} (sl : Nat) (sc : Nat → Int) (Q : State → Prop) (nm : String) (hSc : ScK K sl sc) (hEnd : ∀ (pc : Nat) (lv : List (Nat × AV)), decode cL_law pc = .ok (.ireturn, 1) → Go K (ML_law nm) Q hf pc lv [vi 1] hf) (rc23 : Option Nat → Option Nat → Option Nat → Int → HP → Option (Int × HP)) (hrc23 : ∀ l1 l2 l3 l4 h, rc23 l1 l2 l3 l4 h = some (1, hf) → Go K (ML_law nm) Q hf 23 [(0, vr (some 4000000)), (1, vr l1), (2, vr l2), (3, vr l3), (4, vi l4)] [] h) (l1 : Option Nat) (l2 : Option Nat) (l3 : Option Nat) (l4 : Int) (s0 : Int) (s1 : Int) (h : HP) (E : XL_law_L1293 F sl sc rc23 l1 l2 l3 l4 s0 s1 h = some (1, hf)) : Go K (ML_law nm) Q hf 1293 [(0, vr (some 4000000)), (1, vr l1), (2, vr l2), (3, vr l3), (4, vi l4)] [vl s0, vl s1] h := by
  unfold XL_law_L1293 at E
  refine go_lcmp (n := 1294) dL_law_1293 rfl ?_
  refine go_if_eq (tgt := 1299) (n := 1297) dL_law_1294 rfl rfl (fun c1 => ?_) (fun c1 => ?_)
  · rw [if_pos c1] at E
    exact SXL_law_L1299 sl sc Q nm hSc hEnd _ hrc23 _ _ _ _  _ E
  · rw [if_neg c1] at E
    refine go_iconst (z := 0) (n := 1298) ⟨by decide, by decide⟩ dL_law_1297 rfl ?_
    exact absurd (Prod.mk.inj (Option.some.inj E)).1 (by decide)
noncomputable def XL_law_L1239 (F : Nat) (sl : Nat) (sc : Nat → Int) (rc23 : Option Nat → Option Nat → Option Nat → Int → HP → Option (Int × HP)) (l1 : Option Nat) (l2 : Option Nat) (l3 : Option Nat) (l4 : Int)  (h : HP) : Option (Int × HP) :=
  (xsc sl sc (w32 (l4 + 1))).bind fun v1 =>
  xb (XL_drop F l1 v1 l3 h) fun v2 h3 =>
  (xsc sl sc (w32 (l4 + 1))).bind fun v4 =>
  (xrc h3 l2 12 31).bind fun a7 =>
  xb (X12_drop F a7 v4 h3) fun v5 h6 =>
  (xrc h6 l2 12 31).bind fun a10 =>
  xb (X12_thrown F a10 h6) fun v8 h9 =>
  if v8 = v2 then
    if v2 = 0 then
      (xaJ h9 l3 0).bind fun v13 =>
      XL_law_L1293 F sl sc rc23 l1 l2 l3 l4 (if v5 = 0 then 0 else 1) v13 h9
    else
      XL_law_L1299 F sl sc rc23 l1 l2 l3 l4 h9
  else
    some (0, h9)
set_option maxRecDepth 100000 in
theorem SXL_law_L1239 {K : Ctx} {F : Nat} {hf : HP} (sl : Nat) (sc : Nat → Int) (Q : State → Prop) (nm : String) (hSc : ScK K sl sc) (hEnd : ∀ (pc : Nat) (lv : List (Nat × AV)), decode cL_law pc = .ok (.ireturn, 1) → Go K (ML_law nm) Q hf pc lv [vi 1] hf) (rc23 : Option Nat → Option Nat → Option Nat → Int → HP → Option (Int × HP)) (hrc23 : ∀ l1 l2 l3 l4 h, rc23 l1 l2 l3 l4 h = some (1, hf) → Go K (ML_law nm) Q hf 23 [(0, vr (some 4000000)), (1, vr l1), (2, vr l2), (3, vr l3), (4, vi l4)] [] h) (l1 : Option Nat) (l2 : Option Nat) (l3 : Option Nat) (l4 : Int)  (h : HP) (E : XL_law_L1239 F sl sc rc23 l1 l2 l3 l4 h = some (1, hf)) : Go K (ML_law nm) Q hf 1239 [(0, vr (some 4000000)), (1, vr l1), (2, vr l2), (3, vr l3), (4, vi l4)] [] h := by
  unfold XL_law_L1239 at E
  refine go_aload_n (j := 1) (n := 1240) rfl rfl dL_law_1239 rfl ?_
  refine go_aload_n (j := 0) (n := 1241) rfl rfl dL_law_1240 rfl ?_
  refine go_iload (j := 4) (n := 1243) rfl dL_law_1241 rfl ?_
  refine go_iconst (z := 1) (n := 1244) ⟨by decide, by decide⟩ dL_law_1243 rfl ?_
  refine go_iadd (n := 1245) dL_law_1244 rfl ?_
  replace E := Option.bind_eq_some_iff.mp E; obtain ⟨v1, ev1, E⟩ := E
  refine go_sld (n := 1246) hSc ev1 dL_law_1245 rfl ?_
  refine go_aload_n (j := 3) (n := 1247) rfl rfl dL_law_1246 rfl ?_
  replace E := xb_some E; obtain ⟨v2, h3, ev2, E⟩ := E
  refine go_callSW (y := yL_drop) (n := 1250) (st := []) (as := [vr l1, vi v1, vr l3]) (stk9 := [vi v2]) (OXL_drop ev2) yw_L_drop wml_RL_201 wst_L_drop (Nat.le_of_ble_eq_true rfl) rfl ⟨Nat.le_of_ble_eq_true rfl, Nat.le_of_ble_eq_true rfl⟩ (Nat.le_of_ble_eq_true rfl) dL_law_1247 rfl rfl rfl ?_
  refine go_istore (n := 1252) (lv' := [(5, vi v2), (0, vr (some 4000000)), (1, vr l1), (2, vr l2), (3, vr l3), (4, vi l4)]) dL_law_1250 rfl (Nat.le_of_ble_eq_true rfl) rfl ?_
  refine go_aload_n (j := 3) (n := 1253) rfl rfl dL_law_1252 rfl ?_
  refine go_aload_n (j := 1) (n := 1254) rfl rfl dL_law_1253 rfl ?_
  refine go_iload (j := 5) (n := 1256) rfl dL_law_1254 rfl ?_
  refine go_iconst (z := 1) (n := 1257) ⟨by decide, by decide⟩ dL_law_1256 rfl ?_
  refine go_iadd (n := 1258) dL_law_1257 rfl ?_
  replace E := Option.bind_eq_some_iff.mp E; obtain ⟨v4, ev4, E⟩ := E
  refine go_sld (n := 1259) hSc ev4 dL_law_1258 rfl ?_
  replace E := Option.bind_eq_some_iff.mp E; obtain ⟨a7, ea7, E⟩ := E
  obtain ⟨fa7, ga7⟩ := xrc_some ea7
  replace E := xb_some E; obtain ⟨v5, h6, ev5, E⟩ := E
  refine go_callV (y := yX12_drop) (n := 1262) (st := []) (as := [vi v4]) (stk9 := [vi v5]) (OX12_drop ev5) yw_X12_drop ci_12 ga7 wml_RL_203 wim_X12_drop wse_X12_drop (Nat.le_of_ble_eq_true rfl) rfl ⟨Nat.le_of_ble_eq_true rfl, Nat.le_of_ble_eq_true rfl⟩ (Nat.le_of_ble_eq_true rfl) dL_law_1259 rfl (by cases fa7; rfl) rfl ?_
  refine go_istore (n := 1264) (lv' := [(6, vi v5), (5, vi v2), (0, vr (some 4000000)), (1, vr l1), (2, vr l2), (3, vr l3), (4, vi l4)]) dL_law_1262 rfl (Nat.le_of_ble_eq_true rfl) rfl ?_
  refine go_aload_n (j := 4) (n := 1265) rfl rfl dL_law_1264 rfl ?_
  replace E := Option.bind_eq_some_iff.mp E; obtain ⟨a10, ea10, E⟩ := E
  obtain ⟨fa10, ga10⟩ := xrc_some ea10
  replace E := xb_some E; obtain ⟨v8, h9, ev8, E⟩ := E
  refine go_callV (y := yX12_thrown) (n := 1268) (st := []) (as := []) (stk9 := [vi v8]) (OX12_thrown ev8) yw_X12_thrown ci_12 ga10 wml_RL_146 wim_X12_thrown wse_X12_thrown (Nat.le_of_ble_eq_true rfl) rfl ⟨Nat.le_of_ble_eq_true rfl, Nat.le_of_ble_eq_true rfl⟩ (Nat.le_of_ble_eq_true rfl) dL_law_1265 rfl (by cases fa10; rfl) rfl ?_
  refine go_iload (j := 1) (n := 1270) rfl dL_law_1268 rfl ?_
  refine go_icmp_eq (tgt := 1275) (n := 1273) dL_law_1270 rfl rfl (fun c11 => ?_) (fun c11 => ?_)
  · rw [if_pos c11] at E
    refine go_iload (j := 1) (n := 1277) rfl dL_law_1275 rfl ?_
    refine go_if_ne (tgt := 1299) (n := 1280) dL_law_1277 rfl rfl (fun c12 => ?_) (fun c12 => ?_)
    · rw [if_neg c12] at E
      refine go_pick (lv' := [(0, vr (some 4000000)), (1, vr l1), (2, vr l2), (3, vr l3), (4, vi l4)]) [2, 3, 4, 5, 6] rfl ?_
      exact SXL_law_L1299 sl sc Q nm hSc hEnd _ hrc23 _ _ _ _  _ E
    · rw [if_pos c12] at E
      refine go_aload_n (j := 5) (n := 1281) rfl rfl dL_law_1280 rfl ?_
      refine go_iconst (z := 0) (n := 1282) ⟨by decide, by decide⟩ dL_law_1281 rfl ?_
      replace E := Option.bind_eq_some_iff.mp E; obtain ⟨v13, ev13, E⟩ := E
      refine go_laload (n := 1283) ev13 dL_law_1282 rfl ?_
      refine go_iload (j := 0) (n := 1285) rfl dL_law_1283 rfl ?_
      refine go_if_eq (tgt := 1292) (n := 1288) dL_law_1285 rfl rfl (fun c14 => ?_) (fun c14 => ?_)
      · simp only [if_pos c14] at E
        refine go_lconst (w := 0) (n := 1293) rfl dL_law_1292 rfl ?_
        refine go_pick (lv' := [(0, vr (some 4000000)), (1, vr l1), (2, vr l2), (3, vr l3), (4, vi l4)]) [2, 3, 4, 5, 6] rfl ?_
        exact SXL_law_L1293 sl sc Q nm hSc hEnd _ hrc23 _ _ _ _ _ _ _ E
      · simp only [if_neg c14] at E
        refine go_lconst (w := 1) (n := 1289) rfl dL_law_1288 rfl ?_
        refine go_goto (tgt := 1293) dL_law_1289 rfl ?_
        refine go_pick (lv' := [(0, vr (some 4000000)), (1, vr l1), (2, vr l2), (3, vr l3), (4, vi l4)]) [2, 3, 4, 5, 6] rfl ?_
        exact SXL_law_L1293 sl sc Q nm hSc hEnd _ hrc23 _ _ _ _ _ _ _ E
  · rw [if_neg c11] at E
    refine go_iconst (z := 0) (n := 1274) ⟨by decide, by decide⟩ dL_law_1273 rfl ?_
    exact absurd (Prod.mk.inj (Option.some.inj E)).1 (by decide)
noncomputable def XL_law_L1362 (F : Nat) (sl : Nat) (sc : Nat → Int) (rc23 : Option Nat → Option Nat → Option Nat → Int → HP → Option (Int × HP)) (l1 : Option Nat) (l2 : Option Nat) (l3 : Option Nat) (l4 : Int)  (h : HP) : Option (Int × HP) :=
  XL_law_L2868 F sl sc rc23 l1 l2 l3 l4 h
set_option maxRecDepth 100000 in
theorem SXL_law_L1362 {K : Ctx} {F : Nat} {hf : HP} (sl : Nat) (sc : Nat → Int) (Q : State → Prop) (nm : String) (hSc : ScK K sl sc) (hEnd : ∀ (pc : Nat) (lv : List (Nat × AV)), decode cL_law pc = .ok (.ireturn, 1) → Go K (ML_law nm) Q hf pc lv [vi 1] hf) (rc23 : Option Nat → Option Nat → Option Nat → Int → HP → Option (Int × HP)) (hrc23 : ∀ l1 l2 l3 l4 h, rc23 l1 l2 l3 l4 h = some (1, hf) → Go K (ML_law nm) Q hf 23 [(0, vr (some 4000000)), (1, vr l1), (2, vr l2), (3, vr l3), (4, vi l4)] [] h) (l1 : Option Nat) (l2 : Option Nat) (l3 : Option Nat) (l4 : Int)  (h : HP) (E : XL_law_L1362 F sl sc rc23 l1 l2 l3 l4 h = some (1, hf)) : Go K (ML_law nm) Q hf 1362 [(0, vr (some 4000000)), (1, vr l1), (2, vr l2), (3, vr l3), (4, vi l4)] [] h := by
  unfold XL_law_L1362 at E
  refine go_goto (tgt := 2868) dL_law_1362 rfl ?_
  exact SXL_law_L2868 sl sc Q nm hSc hEnd _ hrc23 _ _ _ _  _ E
noncomputable def XL_law_L1356 (F : Nat) (sl : Nat) (sc : Nat → Int) (rc23 : Option Nat → Option Nat → Option Nat → Int → HP → Option (Int × HP)) (l1 : Option Nat) (l2 : Option Nat) (l3 : Option Nat) (l4 : Int) (s0 : Int) (s1 : Int) (h : HP) : Option (Int × HP) :=
  if (xcmp s1 s0) = 0 then
    XL_law_L1362 F sl sc rc23 l1 l2 l3 l4 h
  else
    some (0, h)
set_option maxRecDepth 100000 in
theorem SXL_law_L1356 {K : Ctx} {F : Nat} {hf : HP} (sl : Nat) (sc : Nat → Int) (Q : State → Prop) (nm : String) (hSc : ScK K sl sc) (hEnd : ∀ (pc : Nat) (lv : List (Nat × AV)), decode cL_law pc = .ok (.ireturn, 1) → Go K (ML_law nm) Q hf pc lv [vi 1] hf) (rc23 : Option Nat → Option Nat → Option Nat → Int → HP → Option (Int × HP)) (hrc23 : ∀ l1 l2 l3 l4 h, rc23 l1 l2 l3 l4 h = some (1, hf) → Go K (ML_law nm) Q hf 23 [(0, vr (some 4000000)), (1, vr l1), (2, vr l2), (3, vr l3), (4, vi l4)] [] h) (l1 : Option Nat) (l2 : Option Nat) (l3 : Option Nat) (l4 : Int) (s0 : Int) (s1 : Int) (h : HP) (E : XL_law_L1356 F sl sc rc23 l1 l2 l3 l4 s0 s1 h = some (1, hf)) : Go K (ML_law nm) Q hf 1356 [(0, vr (some 4000000)), (1, vr l1), (2, vr l2), (3, vr l3), (4, vi l4)] [vl s0, vl s1] h := by
  unfold XL_law_L1356 at E
  refine go_lcmp (n := 1357) dL_law_1356 rfl ?_
  refine go_if_eq (tgt := 1362) (n := 1360) dL_law_1357 rfl rfl (fun c1 => ?_) (fun c1 => ?_)
  · rw [if_pos c1] at E
    exact SXL_law_L1362 sl sc Q nm hSc hEnd _ hrc23 _ _ _ _  _ E
  · rw [if_neg c1] at E
    refine go_iconst (z := 0) (n := 1361) ⟨by decide, by decide⟩ dL_law_1360 rfl ?_
    exact absurd (Prod.mk.inj (Option.some.inj E)).1 (by decide)
noncomputable def XL_law_L1302 (F : Nat) (sl : Nat) (sc : Nat → Int) (rc23 : Option Nat → Option Nat → Option Nat → Int → HP → Option (Int × HP)) (l1 : Option Nat) (l2 : Option Nat) (l3 : Option Nat) (l4 : Int)  (h : HP) : Option (Int × HP) :=
  (xsc sl sc (w32 (l4 + 1))).bind fun v1 =>
  xb (XL_again F l1 v1 l3 h) fun v2 h3 =>
  (xsc sl sc (w32 (l4 + 1))).bind fun v4 =>
  (xrc h3 l2 12 31).bind fun a7 =>
  xb (X12_again F a7 v4 h3) fun v5 h6 =>
  (xrc h6 l2 12 31).bind fun a10 =>
  xb (X12_thrown F a10 h6) fun v8 h9 =>
  if v8 = v2 then
    if v2 = 0 then
      (xaJ h9 l3 0).bind fun v13 =>
      XL_law_L1356 F sl sc rc23 l1 l2 l3 l4 (if v5 = 0 then 0 else 1) v13 h9
    else
      XL_law_L1362 F sl sc rc23 l1 l2 l3 l4 h9
  else
    some (0, h9)
set_option maxRecDepth 100000 in
theorem SXL_law_L1302 {K : Ctx} {F : Nat} {hf : HP} (sl : Nat) (sc : Nat → Int) (Q : State → Prop) (nm : String) (hSc : ScK K sl sc) (hEnd : ∀ (pc : Nat) (lv : List (Nat × AV)), decode cL_law pc = .ok (.ireturn, 1) → Go K (ML_law nm) Q hf pc lv [vi 1] hf) (rc23 : Option Nat → Option Nat → Option Nat → Int → HP → Option (Int × HP)) (hrc23 : ∀ l1 l2 l3 l4 h, rc23 l1 l2 l3 l4 h = some (1, hf) → Go K (ML_law nm) Q hf 23 [(0, vr (some 4000000)), (1, vr l1), (2, vr l2), (3, vr l3), (4, vi l4)] [] h) (l1 : Option Nat) (l2 : Option Nat) (l3 : Option Nat) (l4 : Int)  (h : HP) (E : XL_law_L1302 F sl sc rc23 l1 l2 l3 l4 h = some (1, hf)) : Go K (ML_law nm) Q hf 1302 [(0, vr (some 4000000)), (1, vr l1), (2, vr l2), (3, vr l3), (4, vi l4)] [] h := by
  unfold XL_law_L1302 at E
  refine go_aload_n (j := 1) (n := 1303) rfl rfl dL_law_1302 rfl ?_
  refine go_aload_n (j := 0) (n := 1304) rfl rfl dL_law_1303 rfl ?_
  refine go_iload (j := 4) (n := 1306) rfl dL_law_1304 rfl ?_
  refine go_iconst (z := 1) (n := 1307) ⟨by decide, by decide⟩ dL_law_1306 rfl ?_
  refine go_iadd (n := 1308) dL_law_1307 rfl ?_
  replace E := Option.bind_eq_some_iff.mp E; obtain ⟨v1, ev1, E⟩ := E
  refine go_sld (n := 1309) hSc ev1 dL_law_1308 rfl ?_
  refine go_aload_n (j := 3) (n := 1310) rfl rfl dL_law_1309 rfl ?_
  replace E := xb_some E; obtain ⟨v2, h3, ev2, E⟩ := E
  refine go_callSW (y := yL_again) (n := 1313) (st := []) (as := [vr l1, vi v1, vr l3]) (stk9 := [vi v2]) (OXL_again ev2) yw_L_again wml_RL_204 wst_L_again (Nat.le_of_ble_eq_true rfl) rfl ⟨Nat.le_of_ble_eq_true rfl, Nat.le_of_ble_eq_true rfl⟩ (Nat.le_of_ble_eq_true rfl) dL_law_1310 rfl rfl rfl ?_
  refine go_istore (n := 1315) (lv' := [(5, vi v2), (0, vr (some 4000000)), (1, vr l1), (2, vr l2), (3, vr l3), (4, vi l4)]) dL_law_1313 rfl (Nat.le_of_ble_eq_true rfl) rfl ?_
  refine go_aload_n (j := 3) (n := 1316) rfl rfl dL_law_1315 rfl ?_
  refine go_aload_n (j := 1) (n := 1317) rfl rfl dL_law_1316 rfl ?_
  refine go_iload (j := 5) (n := 1319) rfl dL_law_1317 rfl ?_
  refine go_iconst (z := 1) (n := 1320) ⟨by decide, by decide⟩ dL_law_1319 rfl ?_
  refine go_iadd (n := 1321) dL_law_1320 rfl ?_
  replace E := Option.bind_eq_some_iff.mp E; obtain ⟨v4, ev4, E⟩ := E
  refine go_sld (n := 1322) hSc ev4 dL_law_1321 rfl ?_
  replace E := Option.bind_eq_some_iff.mp E; obtain ⟨a7, ea7, E⟩ := E
  obtain ⟨fa7, ga7⟩ := xrc_some ea7
  replace E := xb_some E; obtain ⟨v5, h6, ev5, E⟩ := E
  refine go_callV (y := yX12_again) (n := 1325) (st := []) (as := [vi v4]) (stk9 := [vi v5]) (OX12_again ev5) yw_X12_again ci_12 ga7 wml_RL_206 wim_X12_again wse_X12_again (Nat.le_of_ble_eq_true rfl) rfl ⟨Nat.le_of_ble_eq_true rfl, Nat.le_of_ble_eq_true rfl⟩ (Nat.le_of_ble_eq_true rfl) dL_law_1322 rfl (by cases fa7; rfl) rfl ?_
  refine go_istore (n := 1327) (lv' := [(6, vi v5), (5, vi v2), (0, vr (some 4000000)), (1, vr l1), (2, vr l2), (3, vr l3), (4, vi l4)]) dL_law_1325 rfl (Nat.le_of_ble_eq_true rfl) rfl ?_
  refine go_aload_n (j := 4) (n := 1328) rfl rfl dL_law_1327 rfl ?_
  replace E := Option.bind_eq_some_iff.mp E; obtain ⟨a10, ea10, E⟩ := E
  obtain ⟨fa10, ga10⟩ := xrc_some ea10
  replace E := xb_some E; obtain ⟨v8, h9, ev8, E⟩ := E
  refine go_callV (y := yX12_thrown) (n := 1331) (st := []) (as := []) (stk9 := [vi v8]) (OX12_thrown ev8) yw_X12_thrown ci_12 ga10 wml_RL_146 wim_X12_thrown wse_X12_thrown (Nat.le_of_ble_eq_true rfl) rfl ⟨Nat.le_of_ble_eq_true rfl, Nat.le_of_ble_eq_true rfl⟩ (Nat.le_of_ble_eq_true rfl) dL_law_1328 rfl (by cases fa10; rfl) rfl ?_
  refine go_iload (j := 1) (n := 1333) rfl dL_law_1331 rfl ?_
  refine go_icmp_eq (tgt := 1338) (n := 1336) dL_law_1333 rfl rfl (fun c11 => ?_) (fun c11 => ?_)
  · rw [if_pos c11] at E
    refine go_iload (j := 1) (n := 1340) rfl dL_law_1338 rfl ?_
    refine go_if_ne (tgt := 1362) (n := 1343) dL_law_1340 rfl rfl (fun c12 => ?_) (fun c12 => ?_)
    · rw [if_neg c12] at E
      refine go_pick (lv' := [(0, vr (some 4000000)), (1, vr l1), (2, vr l2), (3, vr l3), (4, vi l4)]) [2, 3, 4, 5, 6] rfl ?_
      exact SXL_law_L1362 sl sc Q nm hSc hEnd _ hrc23 _ _ _ _  _ E
    · rw [if_pos c12] at E
      refine go_aload_n (j := 5) (n := 1344) rfl rfl dL_law_1343 rfl ?_
      refine go_iconst (z := 0) (n := 1345) ⟨by decide, by decide⟩ dL_law_1344 rfl ?_
      replace E := Option.bind_eq_some_iff.mp E; obtain ⟨v13, ev13, E⟩ := E
      refine go_laload (n := 1346) ev13 dL_law_1345 rfl ?_
      refine go_iload (j := 0) (n := 1348) rfl dL_law_1346 rfl ?_
      refine go_if_eq (tgt := 1355) (n := 1351) dL_law_1348 rfl rfl (fun c14 => ?_) (fun c14 => ?_)
      · simp only [if_pos c14] at E
        refine go_lconst (w := 0) (n := 1356) rfl dL_law_1355 rfl ?_
        refine go_pick (lv' := [(0, vr (some 4000000)), (1, vr l1), (2, vr l2), (3, vr l3), (4, vi l4)]) [2, 3, 4, 5, 6] rfl ?_
        exact SXL_law_L1356 sl sc Q nm hSc hEnd _ hrc23 _ _ _ _ _ _ _ E
      · simp only [if_neg c14] at E
        refine go_lconst (w := 1) (n := 1352) rfl dL_law_1351 rfl ?_
        refine go_goto (tgt := 1356) dL_law_1352 rfl ?_
        refine go_pick (lv' := [(0, vr (some 4000000)), (1, vr l1), (2, vr l2), (3, vr l3), (4, vi l4)]) [2, 3, 4, 5, 6] rfl ?_
        exact SXL_law_L1356 sl sc Q nm hSc hEnd _ hrc23 _ _ _ _ _ _ _ E
  · rw [if_neg c11] at E
    refine go_iconst (z := 0) (n := 1337) ⟨by decide, by decide⟩ dL_law_1336 rfl ?_
    exact absurd (Prod.mk.inj (Option.some.inj E)).1 (by decide)
noncomputable def XL_law_L1418 (F : Nat) (sl : Nat) (sc : Nat → Int) (rc23 : Option Nat → Option Nat → Option Nat → Int → HP → Option (Int × HP)) (l1 : Option Nat) (l2 : Option Nat) (l3 : Option Nat) (l4 : Int)  (h : HP) : Option (Int × HP) :=
  XL_law_L2868 F sl sc rc23 l1 l2 l3 l4 h
set_option maxRecDepth 100000 in
theorem SXL_law_L1418 {K : Ctx} {F : Nat} {hf : HP} (sl : Nat) (sc : Nat → Int) (Q : State → Prop) (nm : String) (hSc : ScK K sl sc) (hEnd : ∀ (pc : Nat) (lv : List (Nat × AV)), decode cL_law pc = .ok (.ireturn, 1) → Go K (ML_law nm) Q hf pc lv [vi 1] hf) (rc23 : Option Nat → Option Nat → Option Nat → Int → HP → Option (Int × HP)) (hrc23 : ∀ l1 l2 l3 l4 h, rc23 l1 l2 l3 l4 h = some (1, hf) → Go K (ML_law nm) Q hf 23 [(0, vr (some 4000000)), (1, vr l1), (2, vr l2), (3, vr l3), (4, vi l4)] [] h) (l1 : Option Nat) (l2 : Option Nat) (l3 : Option Nat) (l4 : Int)  (h : HP) (E : XL_law_L1418 F sl sc rc23 l1 l2 l3 l4 h = some (1, hf)) : Go K (ML_law nm) Q hf 1418 [(0, vr (some 4000000)), (1, vr l1), (2, vr l2), (3, vr l3), (4, vi l4)] [] h := by
  unfold XL_law_L1418 at E
  refine go_goto (tgt := 2868) dL_law_1418 rfl ?_
  exact SXL_law_L2868 sl sc Q nm hSc hEnd _ hrc23 _ _ _ _  _ E
noncomputable def XL_law_L1365 (F : Nat) (sl : Nat) (sc : Nat → Int) (rc23 : Option Nat → Option Nat → Option Nat → Int → HP → Option (Int × HP)) (l1 : Option Nat) (l2 : Option Nat) (l3 : Option Nat) (l4 : Int)  (h : HP) : Option (Int × HP) :=
  (xsc sl sc (w32 (l4 + 1))).bind fun v1 =>
  xb (XL_out F l1 v1 l3 h) fun v2 h3 =>
  (xsc sl sc (w32 (l4 + 1))).bind fun v4 =>
  (xrc h3 l2 12 31).bind fun a7 =>
  xb (X12_out F a7 v4 h3) fun v5 h6 =>
  (xrc h6 l2 12 31).bind fun a10 =>
  xb (X12_thrown F a10 h6) fun v8 h9 =>
  if v8 = v2 then
    if v2 = 0 then
      (xaJ h9 l3 0).bind fun v13 =>
      if (xcmp v13 v5) = 0 then
        XL_law_L1418 F sl sc rc23 l1 l2 l3 l4 h9
      else
        some (0, h9)
    else
      XL_law_L1418 F sl sc rc23 l1 l2 l3 l4 h9
  else
    some (0, h9)
set_option maxRecDepth 100000 in
theorem SXL_law_L1365 {K : Ctx} {F : Nat} {hf : HP} (sl : Nat) (sc : Nat → Int) (Q : State → Prop) (nm : String) (hSc : ScK K sl sc) (hEnd : ∀ (pc : Nat) (lv : List (Nat × AV)), decode cL_law pc = .ok (.ireturn, 1) → Go K (ML_law nm) Q hf pc lv [vi 1] hf) (rc23 : Option Nat → Option Nat → Option Nat → Int → HP → Option (Int × HP)) (hrc23 : ∀ l1 l2 l3 l4 h, rc23 l1 l2 l3 l4 h = some (1, hf) → Go K (ML_law nm) Q hf 23 [(0, vr (some 4000000)), (1, vr l1), (2, vr l2), (3, vr l3), (4, vi l4)] [] h) (l1 : Option Nat) (l2 : Option Nat) (l3 : Option Nat) (l4 : Int)  (h : HP) (E : XL_law_L1365 F sl sc rc23 l1 l2 l3 l4 h = some (1, hf)) : Go K (ML_law nm) Q hf 1365 [(0, vr (some 4000000)), (1, vr l1), (2, vr l2), (3, vr l3), (4, vi l4)] [] h := by
  unfold XL_law_L1365 at E
  refine go_aload_n (j := 1) (n := 1366) rfl rfl dL_law_1365 rfl ?_
  refine go_aload_n (j := 0) (n := 1367) rfl rfl dL_law_1366 rfl ?_
  refine go_iload (j := 4) (n := 1369) rfl dL_law_1367 rfl ?_
  refine go_iconst (z := 1) (n := 1370) ⟨by decide, by decide⟩ dL_law_1369 rfl ?_
  refine go_iadd (n := 1371) dL_law_1370 rfl ?_
  replace E := Option.bind_eq_some_iff.mp E; obtain ⟨v1, ev1, E⟩ := E
  refine go_sld (n := 1372) hSc ev1 dL_law_1371 rfl ?_
  refine go_aload_n (j := 3) (n := 1373) rfl rfl dL_law_1372 rfl ?_
  replace E := xb_some E; obtain ⟨v2, h3, ev2, E⟩ := E
  refine go_callSW (y := yL_out) (n := 1376) (st := []) (as := [vr l1, vi v1, vr l3]) (stk9 := [vi v2]) (OXL_out ev2) yw_L_out wml_RL_207 wst_L_out (Nat.le_of_ble_eq_true rfl) rfl ⟨Nat.le_of_ble_eq_true rfl, Nat.le_of_ble_eq_true rfl⟩ (Nat.le_of_ble_eq_true rfl) dL_law_1373 rfl rfl rfl ?_
  refine go_istore (n := 1378) (lv' := [(5, vi v2), (0, vr (some 4000000)), (1, vr l1), (2, vr l2), (3, vr l3), (4, vi l4)]) dL_law_1376 rfl (Nat.le_of_ble_eq_true rfl) rfl ?_
  refine go_aload_n (j := 3) (n := 1379) rfl rfl dL_law_1378 rfl ?_
  refine go_aload_n (j := 1) (n := 1380) rfl rfl dL_law_1379 rfl ?_
  refine go_iload (j := 5) (n := 1382) rfl dL_law_1380 rfl ?_
  refine go_iconst (z := 1) (n := 1383) ⟨by decide, by decide⟩ dL_law_1382 rfl ?_
  refine go_iadd (n := 1384) dL_law_1383 rfl ?_
  replace E := Option.bind_eq_some_iff.mp E; obtain ⟨v4, ev4, E⟩ := E
  refine go_sld (n := 1385) hSc ev4 dL_law_1384 rfl ?_
  replace E := Option.bind_eq_some_iff.mp E; obtain ⟨a7, ea7, E⟩ := E
  obtain ⟨fa7, ga7⟩ := xrc_some ea7
  replace E := xb_some E; obtain ⟨v5, h6, ev5, E⟩ := E
  refine go_callV (y := yX12_out) (n := 1388) (st := []) (as := [vi v4]) (stk9 := [vi v5]) (OX12_out ev5) yw_X12_out ci_12 ga7 wml_RL_209 wim_X12_out wse_X12_out (Nat.le_of_ble_eq_true rfl) rfl ⟨Nat.le_of_ble_eq_true rfl, Nat.le_of_ble_eq_true rfl⟩ (Nat.le_of_ble_eq_true rfl) dL_law_1385 rfl (by cases fa7; rfl) rfl ?_
  refine go_istore (n := 1390) (lv' := [(6, vi v5), (5, vi v2), (0, vr (some 4000000)), (1, vr l1), (2, vr l2), (3, vr l3), (4, vi l4)]) dL_law_1388 rfl (Nat.le_of_ble_eq_true rfl) rfl ?_
  refine go_aload_n (j := 4) (n := 1391) rfl rfl dL_law_1390 rfl ?_
  replace E := Option.bind_eq_some_iff.mp E; obtain ⟨a10, ea10, E⟩ := E
  obtain ⟨fa10, ga10⟩ := xrc_some ea10
  replace E := xb_some E; obtain ⟨v8, h9, ev8, E⟩ := E
  refine go_callV (y := yX12_thrown) (n := 1394) (st := []) (as := []) (stk9 := [vi v8]) (OX12_thrown ev8) yw_X12_thrown ci_12 ga10 wml_RL_146 wim_X12_thrown wse_X12_thrown (Nat.le_of_ble_eq_true rfl) rfl ⟨Nat.le_of_ble_eq_true rfl, Nat.le_of_ble_eq_true rfl⟩ (Nat.le_of_ble_eq_true rfl) dL_law_1391 rfl (by cases fa10; rfl) rfl ?_
  refine go_iload (j := 1) (n := 1396) rfl dL_law_1394 rfl ?_
  refine go_icmp_eq (tgt := 1401) (n := 1399) dL_law_1396 rfl rfl (fun c11 => ?_) (fun c11 => ?_)
  · rw [if_pos c11] at E
    refine go_iload (j := 1) (n := 1403) rfl dL_law_1401 rfl ?_
    refine go_if_ne (tgt := 1418) (n := 1406) dL_law_1403 rfl rfl (fun c12 => ?_) (fun c12 => ?_)
    · rw [if_neg c12] at E
      refine go_pick (lv' := [(0, vr (some 4000000)), (1, vr l1), (2, vr l2), (3, vr l3), (4, vi l4)]) [2, 3, 4, 5, 6] rfl ?_
      exact SXL_law_L1418 sl sc Q nm hSc hEnd _ hrc23 _ _ _ _  _ E
    · rw [if_pos c12] at E
      refine go_aload_n (j := 5) (n := 1407) rfl rfl dL_law_1406 rfl ?_
      refine go_iconst (z := 0) (n := 1408) ⟨by decide, by decide⟩ dL_law_1407 rfl ?_
      replace E := Option.bind_eq_some_iff.mp E; obtain ⟨v13, ev13, E⟩ := E
      refine go_laload (n := 1409) ev13 dL_law_1408 rfl ?_
      refine go_iload (j := 0) (n := 1411) rfl dL_law_1409 rfl ?_
      refine go_i2l (n := 1412) dL_law_1411 rfl ?_
      refine go_lcmp (n := 1413) dL_law_1412 rfl ?_
      refine go_if_eq (tgt := 1418) (n := 1416) dL_law_1413 rfl rfl (fun c14 => ?_) (fun c14 => ?_)
      · rw [if_pos c14] at E
        refine go_pick (lv' := [(0, vr (some 4000000)), (1, vr l1), (2, vr l2), (3, vr l3), (4, vi l4)]) [2, 3, 4, 5, 6] rfl ?_
        exact SXL_law_L1418 sl sc Q nm hSc hEnd _ hrc23 _ _ _ _  _ E
      · rw [if_neg c14] at E
        refine go_iconst (z := 0) (n := 1417) ⟨by decide, by decide⟩ dL_law_1416 rfl ?_
        exact absurd (Prod.mk.inj (Option.some.inj E)).1 (by decide)
  · rw [if_neg c11] at E
    refine go_iconst (z := 0) (n := 1400) ⟨by decide, by decide⟩ dL_law_1399 rfl ?_
    exact absurd (Prod.mk.inj (Option.some.inj E)).1 (by decide)
noncomputable def XL_law_L1474 (F : Nat) (sl : Nat) (sc : Nat → Int) (rc23 : Option Nat → Option Nat → Option Nat → Int → HP → Option (Int × HP)) (l1 : Option Nat) (l2 : Option Nat) (l3 : Option Nat) (l4 : Int)  (h : HP) : Option (Int × HP) :=
  XL_law_L2868 F sl sc rc23 l1 l2 l3 l4 h
set_option maxRecDepth 100000 in
theorem SXL_law_L1474 {K : Ctx} {F : Nat} {hf : HP} (sl : Nat) (sc : Nat → Int) (Q : State → Prop) (nm : String) (hSc : ScK K sl sc) (hEnd : ∀ (pc : Nat) (lv : List (Nat × AV)), decode cL_law pc = .ok (.ireturn, 1) → Go K (ML_law nm) Q hf pc lv [vi 1] hf) (rc23 : Option Nat → Option Nat → Option Nat → Int → HP → Option (Int × HP)) (hrc23 : ∀ l1 l2 l3 l4 h, rc23 l1 l2 l3 l4 h = some (1, hf) → Go K (ML_law nm) Q hf 23 [(0, vr (some 4000000)), (1, vr l1), (2, vr l2), (3, vr l3), (4, vi l4)] [] h) (l1 : Option Nat) (l2 : Option Nat) (l3 : Option Nat) (l4 : Int)  (h : HP) (E : XL_law_L1474 F sl sc rc23 l1 l2 l3 l4 h = some (1, hf)) : Go K (ML_law nm) Q hf 1474 [(0, vr (some 4000000)), (1, vr l1), (2, vr l2), (3, vr l3), (4, vi l4)] [] h := by
  unfold XL_law_L1474 at E
  refine go_goto (tgt := 2868) dL_law_1474 rfl ?_
  exact SXL_law_L2868 sl sc Q nm hSc hEnd _ hrc23 _ _ _ _  _ E
noncomputable def XL_law_L1421 (F : Nat) (sl : Nat) (sc : Nat → Int) (rc23 : Option Nat → Option Nat → Option Nat → Int → HP → Option (Int × HP)) (l1 : Option Nat) (l2 : Option Nat) (l3 : Option Nat) (l4 : Int)  (h : HP) : Option (Int × HP) :=
  (xsc sl sc (w32 (l4 + 1))).bind fun v1 =>
  xb (XL_minutes F l1 v1 l3 h) fun v2 h3 =>
  (xsc sl sc (w32 (l4 + 1))).bind fun v4 =>
  (xrc h3 l2 12 31).bind fun a7 =>
  xb (X12_minutes F a7 v4 h3) fun v5 h6 =>
  (xrc h6 l2 12 31).bind fun a10 =>
  xb (X12_thrown F a10 h6) fun v8 h9 =>
  if v8 = v2 then
    if v2 = 0 then
      (xaJ h9 l3 0).bind fun v13 =>
      if (xcmp v13 v5) = 0 then
        XL_law_L1474 F sl sc rc23 l1 l2 l3 l4 h9
      else
        some (0, h9)
    else
      XL_law_L1474 F sl sc rc23 l1 l2 l3 l4 h9
  else
    some (0, h9)
set_option maxRecDepth 100000 in
theorem SXL_law_L1421 {K : Ctx} {F : Nat} {hf : HP} (sl : Nat) (sc : Nat → Int) (Q : State → Prop) (nm : String) (hSc : ScK K sl sc) (hEnd : ∀ (pc : Nat) (lv : List (Nat × AV)), decode cL_law pc = .ok (.ireturn, 1) → Go K (ML_law nm) Q hf pc lv [vi 1] hf) (rc23 : Option Nat → Option Nat → Option Nat → Int → HP → Option (Int × HP)) (hrc23 : ∀ l1 l2 l3 l4 h, rc23 l1 l2 l3 l4 h = some (1, hf) → Go K (ML_law nm) Q hf 23 [(0, vr (some 4000000)), (1, vr l1), (2, vr l2), (3, vr l3), (4, vi l4)] [] h) (l1 : Option Nat) (l2 : Option Nat) (l3 : Option Nat) (l4 : Int)  (h : HP) (E : XL_law_L1421 F sl sc rc23 l1 l2 l3 l4 h = some (1, hf)) : Go K (ML_law nm) Q hf 1421 [(0, vr (some 4000000)), (1, vr l1), (2, vr l2), (3, vr l3), (4, vi l4)] [] h := by
  unfold XL_law_L1421 at E
  refine go_aload_n (j := 1) (n := 1422) rfl rfl dL_law_1421 rfl ?_
  refine go_aload_n (j := 0) (n := 1423) rfl rfl dL_law_1422 rfl ?_
  refine go_iload (j := 4) (n := 1425) rfl dL_law_1423 rfl ?_
  refine go_iconst (z := 1) (n := 1426) ⟨by decide, by decide⟩ dL_law_1425 rfl ?_
  refine go_iadd (n := 1427) dL_law_1426 rfl ?_
  replace E := Option.bind_eq_some_iff.mp E; obtain ⟨v1, ev1, E⟩ := E
  refine go_sld (n := 1428) hSc ev1 dL_law_1427 rfl ?_
  refine go_aload_n (j := 3) (n := 1429) rfl rfl dL_law_1428 rfl ?_
  replace E := xb_some E; obtain ⟨v2, h3, ev2, E⟩ := E
  refine go_callSW (y := yL_minutes) (n := 1432) (st := []) (as := [vr l1, vi v1, vr l3]) (stk9 := [vi v2]) (OXL_minutes ev2) yw_L_minutes wml_RL_210 wst_L_minutes (Nat.le_of_ble_eq_true rfl) rfl ⟨Nat.le_of_ble_eq_true rfl, Nat.le_of_ble_eq_true rfl⟩ (Nat.le_of_ble_eq_true rfl) dL_law_1429 rfl rfl rfl ?_
  refine go_istore (n := 1434) (lv' := [(5, vi v2), (0, vr (some 4000000)), (1, vr l1), (2, vr l2), (3, vr l3), (4, vi l4)]) dL_law_1432 rfl (Nat.le_of_ble_eq_true rfl) rfl ?_
  refine go_aload_n (j := 3) (n := 1435) rfl rfl dL_law_1434 rfl ?_
  refine go_aload_n (j := 1) (n := 1436) rfl rfl dL_law_1435 rfl ?_
  refine go_iload (j := 5) (n := 1438) rfl dL_law_1436 rfl ?_
  refine go_iconst (z := 1) (n := 1439) ⟨by decide, by decide⟩ dL_law_1438 rfl ?_
  refine go_iadd (n := 1440) dL_law_1439 rfl ?_
  replace E := Option.bind_eq_some_iff.mp E; obtain ⟨v4, ev4, E⟩ := E
  refine go_sld (n := 1441) hSc ev4 dL_law_1440 rfl ?_
  replace E := Option.bind_eq_some_iff.mp E; obtain ⟨a7, ea7, E⟩ := E
  obtain ⟨fa7, ga7⟩ := xrc_some ea7
  replace E := xb_some E; obtain ⟨v5, h6, ev5, E⟩ := E
  refine go_callV (y := yX12_minutes) (n := 1444) (st := []) (as := [vi v4]) (stk9 := [vi v5]) (OX12_minutes ev5) yw_X12_minutes ci_12 ga7 wml_RL_212 wim_X12_minutes wse_X12_minutes (Nat.le_of_ble_eq_true rfl) rfl ⟨Nat.le_of_ble_eq_true rfl, Nat.le_of_ble_eq_true rfl⟩ (Nat.le_of_ble_eq_true rfl) dL_law_1441 rfl (by cases fa7; rfl) rfl ?_
  refine go_istore (n := 1446) (lv' := [(6, vi v5), (5, vi v2), (0, vr (some 4000000)), (1, vr l1), (2, vr l2), (3, vr l3), (4, vi l4)]) dL_law_1444 rfl (Nat.le_of_ble_eq_true rfl) rfl ?_
  refine go_aload_n (j := 4) (n := 1447) rfl rfl dL_law_1446 rfl ?_
  replace E := Option.bind_eq_some_iff.mp E; obtain ⟨a10, ea10, E⟩ := E
  obtain ⟨fa10, ga10⟩ := xrc_some ea10
  replace E := xb_some E; obtain ⟨v8, h9, ev8, E⟩ := E
  refine go_callV (y := yX12_thrown) (n := 1450) (st := []) (as := []) (stk9 := [vi v8]) (OX12_thrown ev8) yw_X12_thrown ci_12 ga10 wml_RL_146 wim_X12_thrown wse_X12_thrown (Nat.le_of_ble_eq_true rfl) rfl ⟨Nat.le_of_ble_eq_true rfl, Nat.le_of_ble_eq_true rfl⟩ (Nat.le_of_ble_eq_true rfl) dL_law_1447 rfl (by cases fa10; rfl) rfl ?_
  refine go_iload (j := 1) (n := 1452) rfl dL_law_1450 rfl ?_
  refine go_icmp_eq (tgt := 1457) (n := 1455) dL_law_1452 rfl rfl (fun c11 => ?_) (fun c11 => ?_)
  · rw [if_pos c11] at E
    refine go_iload (j := 1) (n := 1459) rfl dL_law_1457 rfl ?_
    refine go_if_ne (tgt := 1474) (n := 1462) dL_law_1459 rfl rfl (fun c12 => ?_) (fun c12 => ?_)
    · rw [if_neg c12] at E
      refine go_pick (lv' := [(0, vr (some 4000000)), (1, vr l1), (2, vr l2), (3, vr l3), (4, vi l4)]) [2, 3, 4, 5, 6] rfl ?_
      exact SXL_law_L1474 sl sc Q nm hSc hEnd _ hrc23 _ _ _ _  _ E
    · rw [if_pos c12] at E
      refine go_aload_n (j := 5) (n := 1463) rfl rfl dL_law_1462 rfl ?_
      refine go_iconst (z := 0) (n := 1464) ⟨by decide, by decide⟩ dL_law_1463 rfl ?_
      replace E := Option.bind_eq_some_iff.mp E; obtain ⟨v13, ev13, E⟩ := E
      refine go_laload (n := 1465) ev13 dL_law_1464 rfl ?_
      refine go_iload (j := 0) (n := 1467) rfl dL_law_1465 rfl ?_
      refine go_i2l (n := 1468) dL_law_1467 rfl ?_
      refine go_lcmp (n := 1469) dL_law_1468 rfl ?_
      refine go_if_eq (tgt := 1474) (n := 1472) dL_law_1469 rfl rfl (fun c14 => ?_) (fun c14 => ?_)
      · rw [if_pos c14] at E
        refine go_pick (lv' := [(0, vr (some 4000000)), (1, vr l1), (2, vr l2), (3, vr l3), (4, vi l4)]) [2, 3, 4, 5, 6] rfl ?_
        exact SXL_law_L1474 sl sc Q nm hSc hEnd _ hrc23 _ _ _ _  _ E
      · rw [if_neg c14] at E
        refine go_iconst (z := 0) (n := 1473) ⟨by decide, by decide⟩ dL_law_1472 rfl ?_
        exact absurd (Prod.mk.inj (Option.some.inj E)).1 (by decide)
  · rw [if_neg c11] at E
    refine go_iconst (z := 0) (n := 1456) ⟨by decide, by decide⟩ dL_law_1455 rfl ?_
    exact absurd (Prod.mk.inj (Option.some.inj E)).1 (by decide)
noncomputable def XL_law_L1542 (F : Nat) (sl : Nat) (sc : Nat → Int) (rc23 : Option Nat → Option Nat → Option Nat → Int → HP → Option (Int × HP)) (l1 : Option Nat) (l2 : Option Nat) (l3 : Option Nat) (l4 : Int)  (h : HP) : Option (Int × HP) :=
  XL_law_L2868 F sl sc rc23 l1 l2 l3 l4 h
set_option maxRecDepth 100000 in
theorem SXL_law_L1542 {K : Ctx} {F : Nat} {hf : HP} (sl : Nat) (sc : Nat → Int) (Q : State → Prop) (nm : String) (hSc : ScK K sl sc) (hEnd : ∀ (pc : Nat) (lv : List (Nat × AV)), decode cL_law pc = .ok (.ireturn, 1) → Go K (ML_law nm) Q hf pc lv [vi 1] hf) (rc23 : Option Nat → Option Nat → Option Nat → Int → HP → Option (Int × HP)) (hrc23 : ∀ l1 l2 l3 l4 h, rc23 l1 l2 l3 l4 h = some (1, hf) → Go K (ML_law nm) Q hf 23 [(0, vr (some 4000000)), (1, vr l1), (2, vr l2), (3, vr l3), (4, vi l4)] [] h) (l1 : Option Nat) (l2 : Option Nat) (l3 : Option Nat) (l4 : Int)  (h : HP) (E : XL_law_L1542 F sl sc rc23 l1 l2 l3 l4 h = some (1, hf)) : Go K (ML_law nm) Q hf 1542 [(0, vr (some 4000000)), (1, vr l1), (2, vr l2), (3, vr l3), (4, vi l4)] [] h := by
  unfold XL_law_L1542 at E
  refine go_goto (tgt := 2868) dL_law_1542 rfl ?_
  exact SXL_law_L2868 sl sc Q nm hSc hEnd _ hrc23 _ _ _ _  _ E
noncomputable def XL_law_L1477 (F : Nat) (sl : Nat) (sc : Nat → Int) (rc23 : Option Nat → Option Nat → Option Nat → Int → HP → Option (Int × HP)) (l1 : Option Nat) (l2 : Option Nat) (l3 : Option Nat) (l4 : Int)  (h : HP) : Option (Int × HP) :=
  (xsc sl sc (w32 (l4 + 1))).bind fun v1 =>
  (xsc sl sc (w32 (l4 + 2))).bind fun v2 =>
  xb (XL_look F l1 v1 v2 l3 h) fun v3 h4 =>
  (xsc sl sc (w32 (l4 + 1))).bind fun v5 =>
  (xsc sl sc (w32 (l4 + 2))).bind fun v6 =>
  (xrc h4 l2 12 31).bind fun a9 =>
  xb (X12_look F a9 v5 v6 h4) fun v7 h8 =>
  (xrc h8 l2 12 31).bind fun a12 =>
  xb (X12_thrown F a12 h8) fun v10 h11 =>
  if v10 = v3 then
    if v3 = 0 then
      (xaJ h11 l3 0).bind fun v15 =>
      if (xcmp v15 v7) = 0 then
        XL_law_L1542 F sl sc rc23 l1 l2 l3 l4 h11
      else
        some (0, h11)
    else
      XL_law_L1542 F sl sc rc23 l1 l2 l3 l4 h11
  else
    some (0, h11)
set_option maxRecDepth 100000 in
theorem SXL_law_L1477 {K : Ctx} {F : Nat} {hf : HP} (sl : Nat) (sc : Nat → Int) (Q : State → Prop) (nm : String) (hSc : ScK K sl sc) (hEnd : ∀ (pc : Nat) (lv : List (Nat × AV)), decode cL_law pc = .ok (.ireturn, 1) → Go K (ML_law nm) Q hf pc lv [vi 1] hf) (rc23 : Option Nat → Option Nat → Option Nat → Int → HP → Option (Int × HP)) (hrc23 : ∀ l1 l2 l3 l4 h, rc23 l1 l2 l3 l4 h = some (1, hf) → Go K (ML_law nm) Q hf 23 [(0, vr (some 4000000)), (1, vr l1), (2, vr l2), (3, vr l3), (4, vi l4)] [] h) (l1 : Option Nat) (l2 : Option Nat) (l3 : Option Nat) (l4 : Int)  (h : HP) (E : XL_law_L1477 F sl sc rc23 l1 l2 l3 l4 h = some (1, hf)) : Go K (ML_law nm) Q hf 1477 [(0, vr (some 4000000)), (1, vr l1), (2, vr l2), (3, vr l3), (4, vi l4)] [] h := by
  unfold XL_law_L1477 at E
  refine go_aload_n (j := 1) (n := 1478) rfl rfl dL_law_1477 rfl ?_
  refine go_aload_n (j := 0) (n := 1479) rfl rfl dL_law_1478 rfl ?_
  refine go_iload (j := 4) (n := 1481) rfl dL_law_1479 rfl ?_
  refine go_iconst (z := 1) (n := 1482) ⟨by decide, by decide⟩ dL_law_1481 rfl ?_
  refine go_iadd (n := 1483) dL_law_1482 rfl ?_
  replace E := Option.bind_eq_some_iff.mp E; obtain ⟨v1, ev1, E⟩ := E
  refine go_sld (n := 1484) hSc ev1 dL_law_1483 rfl ?_
  refine go_aload_n (j := 0) (n := 1485) rfl rfl dL_law_1484 rfl ?_
  refine go_iload (j := 4) (n := 1487) rfl dL_law_1485 rfl ?_
  refine go_iconst (z := 2) (n := 1488) ⟨by decide, by decide⟩ dL_law_1487 rfl ?_
  refine go_iadd (n := 1489) dL_law_1488 rfl ?_
  replace E := Option.bind_eq_some_iff.mp E; obtain ⟨v2, ev2, E⟩ := E
  refine go_sld (n := 1490) hSc ev2 dL_law_1489 rfl ?_
  refine go_aload_n (j := 3) (n := 1491) rfl rfl dL_law_1490 rfl ?_
  replace E := xb_some E; obtain ⟨v3, h4, ev3, E⟩ := E
  refine go_callSW (y := yL_look) (n := 1494) (st := []) (as := [vr l1, vi v1, vi v2, vr l3]) (stk9 := [vi v3]) (OXL_look ev3) yw_L_look wml_RL_213 wst_L_look (Nat.le_of_ble_eq_true rfl) rfl ⟨Nat.le_of_ble_eq_true rfl, Nat.le_of_ble_eq_true rfl⟩ (Nat.le_of_ble_eq_true rfl) dL_law_1491 rfl rfl rfl ?_
  refine go_istore (n := 1496) (lv' := [(5, vi v3), (0, vr (some 4000000)), (1, vr l1), (2, vr l2), (3, vr l3), (4, vi l4)]) dL_law_1494 rfl (Nat.le_of_ble_eq_true rfl) rfl ?_
  refine go_aload_n (j := 3) (n := 1497) rfl rfl dL_law_1496 rfl ?_
  refine go_aload_n (j := 1) (n := 1498) rfl rfl dL_law_1497 rfl ?_
  refine go_iload (j := 5) (n := 1500) rfl dL_law_1498 rfl ?_
  refine go_iconst (z := 1) (n := 1501) ⟨by decide, by decide⟩ dL_law_1500 rfl ?_
  refine go_iadd (n := 1502) dL_law_1501 rfl ?_
  replace E := Option.bind_eq_some_iff.mp E; obtain ⟨v5, ev5, E⟩ := E
  refine go_sld (n := 1503) hSc ev5 dL_law_1502 rfl ?_
  refine go_aload_n (j := 1) (n := 1504) rfl rfl dL_law_1503 rfl ?_
  refine go_iload (j := 5) (n := 1506) rfl dL_law_1504 rfl ?_
  refine go_iconst (z := 2) (n := 1507) ⟨by decide, by decide⟩ dL_law_1506 rfl ?_
  refine go_iadd (n := 1508) dL_law_1507 rfl ?_
  replace E := Option.bind_eq_some_iff.mp E; obtain ⟨v6, ev6, E⟩ := E
  refine go_sld (n := 1509) hSc ev6 dL_law_1508 rfl ?_
  replace E := Option.bind_eq_some_iff.mp E; obtain ⟨a9, ea9, E⟩ := E
  obtain ⟨fa9, ga9⟩ := xrc_some ea9
  replace E := xb_some E; obtain ⟨v7, h8, ev7, E⟩ := E
  refine go_callV (y := yX12_look) (n := 1512) (st := []) (as := [vi v5, vi v6]) (stk9 := [vi v7]) (OX12_look ev7) yw_X12_look ci_12 ga9 wml_RL_215 wim_X12_look wse_X12_look (Nat.le_of_ble_eq_true rfl) rfl ⟨Nat.le_of_ble_eq_true rfl, Nat.le_of_ble_eq_true rfl⟩ (Nat.le_of_ble_eq_true rfl) dL_law_1509 rfl (by cases fa9; rfl) rfl ?_
  refine go_istore (n := 1514) (lv' := [(6, vi v7), (5, vi v3), (0, vr (some 4000000)), (1, vr l1), (2, vr l2), (3, vr l3), (4, vi l4)]) dL_law_1512 rfl (Nat.le_of_ble_eq_true rfl) rfl ?_
  refine go_aload_n (j := 4) (n := 1515) rfl rfl dL_law_1514 rfl ?_
  replace E := Option.bind_eq_some_iff.mp E; obtain ⟨a12, ea12, E⟩ := E
  obtain ⟨fa12, ga12⟩ := xrc_some ea12
  replace E := xb_some E; obtain ⟨v10, h11, ev10, E⟩ := E
  refine go_callV (y := yX12_thrown) (n := 1518) (st := []) (as := []) (stk9 := [vi v10]) (OX12_thrown ev10) yw_X12_thrown ci_12 ga12 wml_RL_146 wim_X12_thrown wse_X12_thrown (Nat.le_of_ble_eq_true rfl) rfl ⟨Nat.le_of_ble_eq_true rfl, Nat.le_of_ble_eq_true rfl⟩ (Nat.le_of_ble_eq_true rfl) dL_law_1515 rfl (by cases fa12; rfl) rfl ?_
  refine go_iload (j := 1) (n := 1520) rfl dL_law_1518 rfl ?_
  refine go_icmp_eq (tgt := 1525) (n := 1523) dL_law_1520 rfl rfl (fun c13 => ?_) (fun c13 => ?_)
  · rw [if_pos c13] at E
    refine go_iload (j := 1) (n := 1527) rfl dL_law_1525 rfl ?_
    refine go_if_ne (tgt := 1542) (n := 1530) dL_law_1527 rfl rfl (fun c14 => ?_) (fun c14 => ?_)
    · rw [if_neg c14] at E
      refine go_pick (lv' := [(0, vr (some 4000000)), (1, vr l1), (2, vr l2), (3, vr l3), (4, vi l4)]) [2, 3, 4, 5, 6] rfl ?_
      exact SXL_law_L1542 sl sc Q nm hSc hEnd _ hrc23 _ _ _ _  _ E
    · rw [if_pos c14] at E
      refine go_aload_n (j := 5) (n := 1531) rfl rfl dL_law_1530 rfl ?_
      refine go_iconst (z := 0) (n := 1532) ⟨by decide, by decide⟩ dL_law_1531 rfl ?_
      replace E := Option.bind_eq_some_iff.mp E; obtain ⟨v15, ev15, E⟩ := E
      refine go_laload (n := 1533) ev15 dL_law_1532 rfl ?_
      refine go_iload (j := 0) (n := 1535) rfl dL_law_1533 rfl ?_
      refine go_i2l (n := 1536) dL_law_1535 rfl ?_
      refine go_lcmp (n := 1537) dL_law_1536 rfl ?_
      refine go_if_eq (tgt := 1542) (n := 1540) dL_law_1537 rfl rfl (fun c16 => ?_) (fun c16 => ?_)
      · rw [if_pos c16] at E
        refine go_pick (lv' := [(0, vr (some 4000000)), (1, vr l1), (2, vr l2), (3, vr l3), (4, vi l4)]) [2, 3, 4, 5, 6] rfl ?_
        exact SXL_law_L1542 sl sc Q nm hSc hEnd _ hrc23 _ _ _ _  _ E
      · rw [if_neg c16] at E
        refine go_iconst (z := 0) (n := 1541) ⟨by decide, by decide⟩ dL_law_1540 rfl ?_
        exact absurd (Prod.mk.inj (Option.some.inj E)).1 (by decide)
  · rw [if_neg c13] at E
    refine go_iconst (z := 0) (n := 1524) ⟨by decide, by decide⟩ dL_law_1523 rfl ?_
    exact absurd (Prod.mk.inj (Option.some.inj E)).1 (by decide)
noncomputable def XL_law_L1629 (F : Nat) (sl : Nat) (sc : Nat → Int) (rc23 : Option Nat → Option Nat → Option Nat → Int → HP → Option (Int × HP)) (l1 : Option Nat) (l2 : Option Nat) (l3 : Option Nat) (l4 : Int)  (h : HP) : Option (Int × HP) :=
  XL_law_L2868 F sl sc rc23 l1 l2 l3 l4 h
set_option maxRecDepth 100000 in
theorem SXL_law_L1629 {K : Ctx} {F : Nat} {hf : HP} (sl : Nat) (sc : Nat → Int) (Q : State → Prop) (nm : String) (hSc : ScK K sl sc) (hEnd : ∀ (pc : Nat) (lv : List (Nat × AV)), decode cL_law pc = .ok (.ireturn, 1) → Go K (ML_law nm) Q hf pc lv [vi 1] hf) (rc23 : Option Nat → Option Nat → Option Nat → Int → HP → Option (Int × HP)) (hrc23 : ∀ l1 l2 l3 l4 h, rc23 l1 l2 l3 l4 h = some (1, hf) → Go K (ML_law nm) Q hf 23 [(0, vr (some 4000000)), (1, vr l1), (2, vr l2), (3, vr l3), (4, vi l4)] [] h) (l1 : Option Nat) (l2 : Option Nat) (l3 : Option Nat) (l4 : Int)  (h : HP) (E : XL_law_L1629 F sl sc rc23 l1 l2 l3 l4 h = some (1, hf)) : Go K (ML_law nm) Q hf 1629 [(0, vr (some 4000000)), (1, vr l1), (2, vr l2), (3, vr l3), (4, vi l4)] [] h := by
  unfold XL_law_L1629 at E
  refine go_goto (tgt := 2868) dL_law_1629 rfl ?_
  exact SXL_law_L2868 sl sc Q nm hSc hEnd _ hrc23 _ _ _ _  _ E
noncomputable def XL_law_L1623 (F : Nat) (sl : Nat) (sc : Nat → Int) (rc23 : Option Nat → Option Nat → Option Nat → Int → HP → Option (Int × HP)) (l1 : Option Nat) (l2 : Option Nat) (l3 : Option Nat) (l4 : Int) (s0 : Int) (s1 : Int) (h : HP) : Option (Int × HP) :=
  if (xcmp s1 s0) = 0 then
    XL_law_L1629 F sl sc rc23 l1 l2 l3 l4 h
  else
    some (0, h)
set_option maxRecDepth 100000 in
theorem SXL_law_L1623 {K : Ctx} {F : Nat} {hf : HP} (sl : Nat) (sc : Nat → Int) (Q : State → Prop) (nm : String) (hSc : ScK K sl sc) (hEnd : ∀ (pc : Nat) (lv : List (Nat × AV)), decode cL_law pc = .ok (.ireturn, 1) → Go K (ML_law nm) Q hf pc lv [vi 1] hf) (rc23 : Option Nat → Option Nat → Option Nat → Int → HP → Option (Int × HP)) (hrc23 : ∀ l1 l2 l3 l4 h, rc23 l1 l2 l3 l4 h = some (1, hf) → Go K (ML_law nm) Q hf 23 [(0, vr (some 4000000)), (1, vr l1), (2, vr l2), (3, vr l3), (4, vi l4)] [] h) (l1 : Option Nat) (l2 : Option Nat) (l3 : Option Nat) (l4 : Int) (s0 : Int) (s1 : Int) (h : HP) (E : XL_law_L1623 F sl sc rc23 l1 l2 l3 l4 s0 s1 h = some (1, hf)) : Go K (ML_law nm) Q hf 1623 [(0, vr (some 4000000)), (1, vr l1), (2, vr l2), (3, vr l3), (4, vi l4)] [vl s0, vl s1] h := by
  unfold XL_law_L1623 at E
  refine go_lcmp (n := 1624) dL_law_1623 rfl ?_
  refine go_if_eq (tgt := 1629) (n := 1627) dL_law_1624 rfl rfl (fun c1 => ?_) (fun c1 => ?_)
  · rw [if_pos c1] at E
    exact SXL_law_L1629 sl sc Q nm hSc hEnd _ hrc23 _ _ _ _  _ E
  · rw [if_neg c1] at E
    refine go_iconst (z := 0) (n := 1628) ⟨by decide, by decide⟩ dL_law_1627 rfl ?_
    exact absurd (Prod.mk.inj (Option.some.inj E)).1 (by decide)
noncomputable def XL_law_L1545 (F : Nat) (sl : Nat) (sc : Nat → Int) (rc23 : Option Nat → Option Nat → Option Nat → Int → HP → Option (Int × HP)) (l1 : Option Nat) (l2 : Option Nat) (l3 : Option Nat) (l4 : Int)  (h : HP) : Option (Int × HP) :=
  (xsc sl sc (w32 (l4 + 1))).bind fun v1 =>
  (xsc sl sc (w32 (l4 + 2))).bind fun v2 =>
  (xsc sl sc (w32 (l4 + 3))).bind fun v3 =>
  xb (XL_lamp F l1 v1 v2 v3 l3 h) fun v4 h5 =>
  (xsc sl sc (w32 (l4 + 1))).bind fun v6 =>
  (xsc sl sc (w32 (l4 + 2))).bind fun v7 =>
  (xsc sl sc (w32 (l4 + 3))).bind fun v8 =>
  (xrc h5 l2 12 31).bind fun a11 =>
  xb (X12_lamp F a11 v6 v7 v8 h5) fun v9 h10 =>
  (xrc h10 l2 12 31).bind fun a14 =>
  xb (X12_thrown F a14 h10) fun v12 h13 =>
  if v12 = v4 then
    if v4 = 0 then
      (xaJ h13 l3 0).bind fun v17 =>
      XL_law_L1623 F sl sc rc23 l1 l2 l3 l4 (if v9 = 0 then 0 else 1) v17 h13
    else
      XL_law_L1629 F sl sc rc23 l1 l2 l3 l4 h13
  else
    some (0, h13)
set_option maxRecDepth 100000 in
theorem SXL_law_L1545 {K : Ctx} {F : Nat} {hf : HP} (sl : Nat) (sc : Nat → Int) (Q : State → Prop) (nm : String) (hSc : ScK K sl sc) (hEnd : ∀ (pc : Nat) (lv : List (Nat × AV)), decode cL_law pc = .ok (.ireturn, 1) → Go K (ML_law nm) Q hf pc lv [vi 1] hf) (rc23 : Option Nat → Option Nat → Option Nat → Int → HP → Option (Int × HP)) (hrc23 : ∀ l1 l2 l3 l4 h, rc23 l1 l2 l3 l4 h = some (1, hf) → Go K (ML_law nm) Q hf 23 [(0, vr (some 4000000)), (1, vr l1), (2, vr l2), (3, vr l3), (4, vi l4)] [] h) (l1 : Option Nat) (l2 : Option Nat) (l3 : Option Nat) (l4 : Int)  (h : HP) (E : XL_law_L1545 F sl sc rc23 l1 l2 l3 l4 h = some (1, hf)) : Go K (ML_law nm) Q hf 1545 [(0, vr (some 4000000)), (1, vr l1), (2, vr l2), (3, vr l3), (4, vi l4)] [] h := by
  unfold XL_law_L1545 at E
  refine go_aload_n (j := 1) (n := 1546) rfl rfl dL_law_1545 rfl ?_
  refine go_aload_n (j := 0) (n := 1547) rfl rfl dL_law_1546 rfl ?_
  refine go_iload (j := 4) (n := 1549) rfl dL_law_1547 rfl ?_
  refine go_iconst (z := 1) (n := 1550) ⟨by decide, by decide⟩ dL_law_1549 rfl ?_
  refine go_iadd (n := 1551) dL_law_1550 rfl ?_
  replace E := Option.bind_eq_some_iff.mp E; obtain ⟨v1, ev1, E⟩ := E
  refine go_sld (n := 1552) hSc ev1 dL_law_1551 rfl ?_
  refine go_aload_n (j := 0) (n := 1553) rfl rfl dL_law_1552 rfl ?_
  refine go_iload (j := 4) (n := 1555) rfl dL_law_1553 rfl ?_
  refine go_iconst (z := 2) (n := 1556) ⟨by decide, by decide⟩ dL_law_1555 rfl ?_
  refine go_iadd (n := 1557) dL_law_1556 rfl ?_
  replace E := Option.bind_eq_some_iff.mp E; obtain ⟨v2, ev2, E⟩ := E
  refine go_sld (n := 1558) hSc ev2 dL_law_1557 rfl ?_
  refine go_aload_n (j := 0) (n := 1559) rfl rfl dL_law_1558 rfl ?_
  refine go_iload (j := 4) (n := 1561) rfl dL_law_1559 rfl ?_
  refine go_iconst (z := 3) (n := 1562) ⟨by decide, by decide⟩ dL_law_1561 rfl ?_
  refine go_iadd (n := 1563) dL_law_1562 rfl ?_
  replace E := Option.bind_eq_some_iff.mp E; obtain ⟨v3, ev3, E⟩ := E
  refine go_sld (n := 1564) hSc ev3 dL_law_1563 rfl ?_
  refine go_aload_n (j := 3) (n := 1565) rfl rfl dL_law_1564 rfl ?_
  replace E := xb_some E; obtain ⟨v4, h5, ev4, E⟩ := E
  refine go_callSW (y := yL_lamp) (n := 1568) (st := []) (as := [vr l1, vi v1, vi v2, vi v3, vr l3]) (stk9 := [vi v4]) (OXL_lamp ev4) yw_L_lamp wml_RL_216 wst_L_lamp (Nat.le_of_ble_eq_true rfl) rfl ⟨Nat.le_of_ble_eq_true rfl, Nat.le_of_ble_eq_true rfl⟩ (Nat.le_of_ble_eq_true rfl) dL_law_1565 rfl rfl rfl ?_
  refine go_istore (n := 1570) (lv' := [(5, vi v4), (0, vr (some 4000000)), (1, vr l1), (2, vr l2), (3, vr l3), (4, vi l4)]) dL_law_1568 rfl (Nat.le_of_ble_eq_true rfl) rfl ?_
  refine go_aload_n (j := 3) (n := 1571) rfl rfl dL_law_1570 rfl ?_
  refine go_aload_n (j := 1) (n := 1572) rfl rfl dL_law_1571 rfl ?_
  refine go_iload (j := 5) (n := 1574) rfl dL_law_1572 rfl ?_
  refine go_iconst (z := 1) (n := 1575) ⟨by decide, by decide⟩ dL_law_1574 rfl ?_
  refine go_iadd (n := 1576) dL_law_1575 rfl ?_
  replace E := Option.bind_eq_some_iff.mp E; obtain ⟨v6, ev6, E⟩ := E
  refine go_sld (n := 1577) hSc ev6 dL_law_1576 rfl ?_
  refine go_aload_n (j := 1) (n := 1578) rfl rfl dL_law_1577 rfl ?_
  refine go_iload (j := 5) (n := 1580) rfl dL_law_1578 rfl ?_
  refine go_iconst (z := 2) (n := 1581) ⟨by decide, by decide⟩ dL_law_1580 rfl ?_
  refine go_iadd (n := 1582) dL_law_1581 rfl ?_
  replace E := Option.bind_eq_some_iff.mp E; obtain ⟨v7, ev7, E⟩ := E
  refine go_sld (n := 1583) hSc ev7 dL_law_1582 rfl ?_
  refine go_aload_n (j := 1) (n := 1584) rfl rfl dL_law_1583 rfl ?_
  refine go_iload (j := 5) (n := 1586) rfl dL_law_1584 rfl ?_
  refine go_iconst (z := 3) (n := 1587) ⟨by decide, by decide⟩ dL_law_1586 rfl ?_
  refine go_iadd (n := 1588) dL_law_1587 rfl ?_
  replace E := Option.bind_eq_some_iff.mp E; obtain ⟨v8, ev8, E⟩ := E
  refine go_sld (n := 1589) hSc ev8 dL_law_1588 rfl ?_
  replace E := Option.bind_eq_some_iff.mp E; obtain ⟨a11, ea11, E⟩ := E
  obtain ⟨fa11, ga11⟩ := xrc_some ea11
  replace E := xb_some E; obtain ⟨v9, h10, ev9, E⟩ := E
  refine go_callV (y := yX12_lamp) (n := 1592) (st := []) (as := [vi v6, vi v7, vi v8]) (stk9 := [vi v9]) (OX12_lamp ev9) yw_X12_lamp ci_12 ga11 wml_RL_218 wim_X12_lamp wse_X12_lamp (Nat.le_of_ble_eq_true rfl) rfl ⟨Nat.le_of_ble_eq_true rfl, Nat.le_of_ble_eq_true rfl⟩ (Nat.le_of_ble_eq_true rfl) dL_law_1589 rfl (by cases fa11; rfl) rfl ?_
  refine go_istore (n := 1594) (lv' := [(6, vi v9), (5, vi v4), (0, vr (some 4000000)), (1, vr l1), (2, vr l2), (3, vr l3), (4, vi l4)]) dL_law_1592 rfl (Nat.le_of_ble_eq_true rfl) rfl ?_
  refine go_aload_n (j := 4) (n := 1595) rfl rfl dL_law_1594 rfl ?_
  replace E := Option.bind_eq_some_iff.mp E; obtain ⟨a14, ea14, E⟩ := E
  obtain ⟨fa14, ga14⟩ := xrc_some ea14
  replace E := xb_some E; obtain ⟨v12, h13, ev12, E⟩ := E
  refine go_callV (y := yX12_thrown) (n := 1598) (st := []) (as := []) (stk9 := [vi v12]) (OX12_thrown ev12) yw_X12_thrown ci_12 ga14 wml_RL_146 wim_X12_thrown wse_X12_thrown (Nat.le_of_ble_eq_true rfl) rfl ⟨Nat.le_of_ble_eq_true rfl, Nat.le_of_ble_eq_true rfl⟩ (Nat.le_of_ble_eq_true rfl) dL_law_1595 rfl (by cases fa14; rfl) rfl ?_
  refine go_iload (j := 1) (n := 1600) rfl dL_law_1598 rfl ?_
  refine go_icmp_eq (tgt := 1605) (n := 1603) dL_law_1600 rfl rfl (fun c15 => ?_) (fun c15 => ?_)
  · rw [if_pos c15] at E
    refine go_iload (j := 1) (n := 1607) rfl dL_law_1605 rfl ?_
    refine go_if_ne (tgt := 1629) (n := 1610) dL_law_1607 rfl rfl (fun c16 => ?_) (fun c16 => ?_)
    · rw [if_neg c16] at E
      refine go_pick (lv' := [(0, vr (some 4000000)), (1, vr l1), (2, vr l2), (3, vr l3), (4, vi l4)]) [2, 3, 4, 5, 6] rfl ?_
      exact SXL_law_L1629 sl sc Q nm hSc hEnd _ hrc23 _ _ _ _  _ E
    · rw [if_pos c16] at E
      refine go_aload_n (j := 5) (n := 1611) rfl rfl dL_law_1610 rfl ?_
      refine go_iconst (z := 0) (n := 1612) ⟨by decide, by decide⟩ dL_law_1611 rfl ?_
      replace E := Option.bind_eq_some_iff.mp E; obtain ⟨v17, ev17, E⟩ := E
      refine go_laload (n := 1613) ev17 dL_law_1612 rfl ?_
      refine go_iload (j := 0) (n := 1615) rfl dL_law_1613 rfl ?_
      refine go_if_eq (tgt := 1622) (n := 1618) dL_law_1615 rfl rfl (fun c18 => ?_) (fun c18 => ?_)
      · simp only [if_pos c18] at E
        refine go_lconst (w := 0) (n := 1623) rfl dL_law_1622 rfl ?_
        refine go_pick (lv' := [(0, vr (some 4000000)), (1, vr l1), (2, vr l2), (3, vr l3), (4, vi l4)]) [2, 3, 4, 5, 6] rfl ?_
        exact SXL_law_L1623 sl sc Q nm hSc hEnd _ hrc23 _ _ _ _ _ _ _ E
      · simp only [if_neg c18] at E
        refine go_lconst (w := 1) (n := 1619) rfl dL_law_1618 rfl ?_
        refine go_goto (tgt := 1623) dL_law_1619 rfl ?_
        refine go_pick (lv' := [(0, vr (some 4000000)), (1, vr l1), (2, vr l2), (3, vr l3), (4, vi l4)]) [2, 3, 4, 5, 6] rfl ?_
        exact SXL_law_L1623 sl sc Q nm hSc hEnd _ hrc23 _ _ _ _ _ _ _ E
  · rw [if_neg c15] at E
    refine go_iconst (z := 0) (n := 1604) ⟨by decide, by decide⟩ dL_law_1603 rfl ?_
    exact absurd (Prod.mk.inj (Option.some.inj E)).1 (by decide)
noncomputable def XL_law_L1697 (F : Nat) (sl : Nat) (sc : Nat → Int) (rc23 : Option Nat → Option Nat → Option Nat → Int → HP → Option (Int × HP)) (l1 : Option Nat) (l2 : Option Nat) (l3 : Option Nat) (l4 : Int)  (h : HP) : Option (Int × HP) :=
  XL_law_L2868 F sl sc rc23 l1 l2 l3 l4 h
set_option maxRecDepth 100000 in
theorem SXL_law_L1697 {K : Ctx} {F : Nat} {hf : HP} (sl : Nat) (sc : Nat → Int) (Q : State → Prop) (nm : String) (hSc : ScK K sl sc) (hEnd : ∀ (pc : Nat) (lv : List (Nat × AV)), decode cL_law pc = .ok (.ireturn, 1) → Go K (ML_law nm) Q hf pc lv [vi 1] hf) (rc23 : Option Nat → Option Nat → Option Nat → Int → HP → Option (Int × HP)) (hrc23 : ∀ l1 l2 l3 l4 h, rc23 l1 l2 l3 l4 h = some (1, hf) → Go K (ML_law nm) Q hf 23 [(0, vr (some 4000000)), (1, vr l1), (2, vr l2), (3, vr l3), (4, vi l4)] [] h) (l1 : Option Nat) (l2 : Option Nat) (l3 : Option Nat) (l4 : Int)  (h : HP) (E : XL_law_L1697 F sl sc rc23 l1 l2 l3 l4 h = some (1, hf)) : Go K (ML_law nm) Q hf 1697 [(0, vr (some 4000000)), (1, vr l1), (2, vr l2), (3, vr l3), (4, vi l4)] [] h := by
  unfold XL_law_L1697 at E
  refine go_goto (tgt := 2868) dL_law_1697 rfl ?_
  exact SXL_law_L2868 sl sc Q nm hSc hEnd _ hrc23 _ _ _ _  _ E
noncomputable def XL_law_L1632 (F : Nat) (sl : Nat) (sc : Nat → Int) (rc23 : Option Nat → Option Nat → Option Nat → Int → HP → Option (Int × HP)) (l1 : Option Nat) (l2 : Option Nat) (l3 : Option Nat) (l4 : Int)  (h : HP) : Option (Int × HP) :=
  (xsc sl sc (w32 (l4 + 1))).bind fun v1 =>
  (xsc sl sc (w32 (l4 + 2))).bind fun v2 =>
  xb (XL_test F l1 v1 v2 l3 h) fun v3 h4 =>
  (xsc sl sc (w32 (l4 + 1))).bind fun v5 =>
  (xsc sl sc (w32 (l4 + 2))).bind fun v6 =>
  (xrc h4 l2 12 31).bind fun a9 =>
  xb (X12_test F a9 v5 v6 h4) fun v7 h8 =>
  (xrc h8 l2 12 31).bind fun a12 =>
  xb (X12_thrown F a12 h8) fun v10 h11 =>
  if v10 = v3 then
    if v3 = 0 then
      (xaJ h11 l3 0).bind fun v15 =>
      if (xcmp v15 v7) = 0 then
        XL_law_L1697 F sl sc rc23 l1 l2 l3 l4 h11
      else
        some (0, h11)
    else
      XL_law_L1697 F sl sc rc23 l1 l2 l3 l4 h11
  else
    some (0, h11)
set_option maxRecDepth 100000 in
theorem SXL_law_L1632 {K : Ctx} {F : Nat} {hf : HP} (sl : Nat) (sc : Nat → Int) (Q : State → Prop) (nm : String) (hSc : ScK K sl sc) (hEnd : ∀ (pc : Nat) (lv : List (Nat × AV)), decode cL_law pc = .ok (.ireturn, 1) → Go K (ML_law nm) Q hf pc lv [vi 1] hf) (rc23 : Option Nat → Option Nat → Option Nat → Int → HP → Option (Int × HP)) (hrc23 : ∀ l1 l2 l3 l4 h, rc23 l1 l2 l3 l4 h = some (1, hf) → Go K (ML_law nm) Q hf 23 [(0, vr (some 4000000)), (1, vr l1), (2, vr l2), (3, vr l3), (4, vi l4)] [] h) (l1 : Option Nat) (l2 : Option Nat) (l3 : Option Nat) (l4 : Int)  (h : HP) (E : XL_law_L1632 F sl sc rc23 l1 l2 l3 l4 h = some (1, hf)) : Go K (ML_law nm) Q hf 1632 [(0, vr (some 4000000)), (1, vr l1), (2, vr l2), (3, vr l3), (4, vi l4)] [] h := by
  unfold XL_law_L1632 at E
  refine go_aload_n (j := 1) (n := 1633) rfl rfl dL_law_1632 rfl ?_
  refine go_aload_n (j := 0) (n := 1634) rfl rfl dL_law_1633 rfl ?_
  refine go_iload (j := 4) (n := 1636) rfl dL_law_1634 rfl ?_
  refine go_iconst (z := 1) (n := 1637) ⟨by decide, by decide⟩ dL_law_1636 rfl ?_
  refine go_iadd (n := 1638) dL_law_1637 rfl ?_
  replace E := Option.bind_eq_some_iff.mp E; obtain ⟨v1, ev1, E⟩ := E
  refine go_sld (n := 1639) hSc ev1 dL_law_1638 rfl ?_
  refine go_aload_n (j := 0) (n := 1640) rfl rfl dL_law_1639 rfl ?_
  refine go_iload (j := 4) (n := 1642) rfl dL_law_1640 rfl ?_
  refine go_iconst (z := 2) (n := 1643) ⟨by decide, by decide⟩ dL_law_1642 rfl ?_
  refine go_iadd (n := 1644) dL_law_1643 rfl ?_
  replace E := Option.bind_eq_some_iff.mp E; obtain ⟨v2, ev2, E⟩ := E
  refine go_sld (n := 1645) hSc ev2 dL_law_1644 rfl ?_
  refine go_aload_n (j := 3) (n := 1646) rfl rfl dL_law_1645 rfl ?_
  replace E := xb_some E; obtain ⟨v3, h4, ev3, E⟩ := E
  refine go_callSW (y := yL_test) (n := 1649) (st := []) (as := [vr l1, vi v1, vi v2, vr l3]) (stk9 := [vi v3]) (OXL_test ev3) yw_L_test wml_RL_219 wst_L_test (Nat.le_of_ble_eq_true rfl) rfl ⟨Nat.le_of_ble_eq_true rfl, Nat.le_of_ble_eq_true rfl⟩ (Nat.le_of_ble_eq_true rfl) dL_law_1646 rfl rfl rfl ?_
  refine go_istore (n := 1651) (lv' := [(5, vi v3), (0, vr (some 4000000)), (1, vr l1), (2, vr l2), (3, vr l3), (4, vi l4)]) dL_law_1649 rfl (Nat.le_of_ble_eq_true rfl) rfl ?_
  refine go_aload_n (j := 3) (n := 1652) rfl rfl dL_law_1651 rfl ?_
  refine go_aload_n (j := 1) (n := 1653) rfl rfl dL_law_1652 rfl ?_
  refine go_iload (j := 5) (n := 1655) rfl dL_law_1653 rfl ?_
  refine go_iconst (z := 1) (n := 1656) ⟨by decide, by decide⟩ dL_law_1655 rfl ?_
  refine go_iadd (n := 1657) dL_law_1656 rfl ?_
  replace E := Option.bind_eq_some_iff.mp E; obtain ⟨v5, ev5, E⟩ := E
  refine go_sld (n := 1658) hSc ev5 dL_law_1657 rfl ?_
  refine go_aload_n (j := 1) (n := 1659) rfl rfl dL_law_1658 rfl ?_
  refine go_iload (j := 5) (n := 1661) rfl dL_law_1659 rfl ?_
  refine go_iconst (z := 2) (n := 1662) ⟨by decide, by decide⟩ dL_law_1661 rfl ?_
  refine go_iadd (n := 1663) dL_law_1662 rfl ?_
  replace E := Option.bind_eq_some_iff.mp E; obtain ⟨v6, ev6, E⟩ := E
  refine go_sld (n := 1664) hSc ev6 dL_law_1663 rfl ?_
  replace E := Option.bind_eq_some_iff.mp E; obtain ⟨a9, ea9, E⟩ := E
  obtain ⟨fa9, ga9⟩ := xrc_some ea9
  replace E := xb_some E; obtain ⟨v7, h8, ev7, E⟩ := E
  refine go_callV (y := yX12_test) (n := 1667) (st := []) (as := [vi v5, vi v6]) (stk9 := [vi v7]) (OX12_test ev7) yw_X12_test ci_12 ga9 wml_RL_221 wim_X12_test wse_X12_test (Nat.le_of_ble_eq_true rfl) rfl ⟨Nat.le_of_ble_eq_true rfl, Nat.le_of_ble_eq_true rfl⟩ (Nat.le_of_ble_eq_true rfl) dL_law_1664 rfl (by cases fa9; rfl) rfl ?_
  refine go_istore (n := 1669) (lv' := [(6, vi v7), (5, vi v3), (0, vr (some 4000000)), (1, vr l1), (2, vr l2), (3, vr l3), (4, vi l4)]) dL_law_1667 rfl (Nat.le_of_ble_eq_true rfl) rfl ?_
  refine go_aload_n (j := 4) (n := 1670) rfl rfl dL_law_1669 rfl ?_
  replace E := Option.bind_eq_some_iff.mp E; obtain ⟨a12, ea12, E⟩ := E
  obtain ⟨fa12, ga12⟩ := xrc_some ea12
  replace E := xb_some E; obtain ⟨v10, h11, ev10, E⟩ := E
  refine go_callV (y := yX12_thrown) (n := 1673) (st := []) (as := []) (stk9 := [vi v10]) (OX12_thrown ev10) yw_X12_thrown ci_12 ga12 wml_RL_146 wim_X12_thrown wse_X12_thrown (Nat.le_of_ble_eq_true rfl) rfl ⟨Nat.le_of_ble_eq_true rfl, Nat.le_of_ble_eq_true rfl⟩ (Nat.le_of_ble_eq_true rfl) dL_law_1670 rfl (by cases fa12; rfl) rfl ?_
  refine go_iload (j := 1) (n := 1675) rfl dL_law_1673 rfl ?_
  refine go_icmp_eq (tgt := 1680) (n := 1678) dL_law_1675 rfl rfl (fun c13 => ?_) (fun c13 => ?_)
  · rw [if_pos c13] at E
    refine go_iload (j := 1) (n := 1682) rfl dL_law_1680 rfl ?_
    refine go_if_ne (tgt := 1697) (n := 1685) dL_law_1682 rfl rfl (fun c14 => ?_) (fun c14 => ?_)
    · rw [if_neg c14] at E
      refine go_pick (lv' := [(0, vr (some 4000000)), (1, vr l1), (2, vr l2), (3, vr l3), (4, vi l4)]) [2, 3, 4, 5, 6] rfl ?_
      exact SXL_law_L1697 sl sc Q nm hSc hEnd _ hrc23 _ _ _ _  _ E
    · rw [if_pos c14] at E
      refine go_aload_n (j := 5) (n := 1686) rfl rfl dL_law_1685 rfl ?_
      refine go_iconst (z := 0) (n := 1687) ⟨by decide, by decide⟩ dL_law_1686 rfl ?_
      replace E := Option.bind_eq_some_iff.mp E; obtain ⟨v15, ev15, E⟩ := E
      refine go_laload (n := 1688) ev15 dL_law_1687 rfl ?_
      refine go_iload (j := 0) (n := 1690) rfl dL_law_1688 rfl ?_
      refine go_i2l (n := 1691) dL_law_1690 rfl ?_
      refine go_lcmp (n := 1692) dL_law_1691 rfl ?_
      refine go_if_eq (tgt := 1697) (n := 1695) dL_law_1692 rfl rfl (fun c16 => ?_) (fun c16 => ?_)
      · rw [if_pos c16] at E
        refine go_pick (lv' := [(0, vr (some 4000000)), (1, vr l1), (2, vr l2), (3, vr l3), (4, vi l4)]) [2, 3, 4, 5, 6] rfl ?_
        exact SXL_law_L1697 sl sc Q nm hSc hEnd _ hrc23 _ _ _ _  _ E
      · rw [if_neg c16] at E
        refine go_iconst (z := 0) (n := 1696) ⟨by decide, by decide⟩ dL_law_1695 rfl ?_
        exact absurd (Prod.mk.inj (Option.some.inj E)).1 (by decide)
  · rw [if_neg c13] at E
    refine go_iconst (z := 0) (n := 1679) ⟨by decide, by decide⟩ dL_law_1678 rfl ?_
    exact absurd (Prod.mk.inj (Option.some.inj E)).1 (by decide)
noncomputable def XL_law_L1700 (F : Nat) (sl : Nat) (sc : Nat → Int) (rc23 : Option Nat → Option Nat → Option Nat → Int → HP → Option (Int × HP)) (l1 : Option Nat) (l2 : Option Nat) (l3 : Option Nat) (l4 : Int)  (h : HP) : Option (Int × HP) :=
  (xrc h l1 11 6).bind fun a3 =>
  xb (X11_doubted F a3 h) fun v1 h2 =>
  (xrc h2 l2 12 31).bind fun a6 =>
  xb (X12_doubted F a6 h2) fun v4 h5 =>
  if (xcmp v1 v4) = 0 then
    XL_law_L2868 F sl sc rc23 l1 l2 l3 l4 h5
  else
    some (0, h5)
set_option maxRecDepth 100000 in
theorem SXL_law_L1700 {K : Ctx} {F : Nat} {hf : HP} (sl : Nat) (sc : Nat → Int) (Q : State → Prop) (nm : String) (hSc : ScK K sl sc) (hEnd : ∀ (pc : Nat) (lv : List (Nat × AV)), decode cL_law pc = .ok (.ireturn, 1) → Go K (ML_law nm) Q hf pc lv [vi 1] hf) (rc23 : Option Nat → Option Nat → Option Nat → Int → HP → Option (Int × HP)) (hrc23 : ∀ l1 l2 l3 l4 h, rc23 l1 l2 l3 l4 h = some (1, hf) → Go K (ML_law nm) Q hf 23 [(0, vr (some 4000000)), (1, vr l1), (2, vr l2), (3, vr l3), (4, vi l4)] [] h) (l1 : Option Nat) (l2 : Option Nat) (l3 : Option Nat) (l4 : Int)  (h : HP) (E : XL_law_L1700 F sl sc rc23 l1 l2 l3 l4 h = some (1, hf)) : Go K (ML_law nm) Q hf 1700 [(0, vr (some 4000000)), (1, vr l1), (2, vr l2), (3, vr l3), (4, vi l4)] [] h := by
  unfold XL_law_L1700 at E
  refine go_aload_n (j := 1) (n := 1701) rfl rfl dL_law_1700 rfl ?_
  replace E := Option.bind_eq_some_iff.mp E; obtain ⟨a3, ea3, E⟩ := E
  obtain ⟨fa3, ga3⟩ := xrc_some ea3
  replace E := xb_some E; obtain ⟨v1, h2, ev1, E⟩ := E
  refine go_callV (y := yX11_doubted) (n := 1704) (st := []) (as := []) (stk9 := [vl v1]) (OX11_doubted ev1) yw_X11_doubted ci_11 ga3 wml_RL_222 wim_X11_doubted wse_X11_doubted (Nat.le_of_ble_eq_true rfl) rfl ⟨Nat.le_of_ble_eq_true rfl, Nat.le_of_ble_eq_true rfl⟩ (Nat.le_of_ble_eq_true rfl) dL_law_1701 rfl (by cases fa3; rfl) rfl ?_
  refine go_aload_n (j := 2) (n := 1705) rfl rfl dL_law_1704 rfl ?_
  replace E := Option.bind_eq_some_iff.mp E; obtain ⟨a6, ea6, E⟩ := E
  obtain ⟨fa6, ga6⟩ := xrc_some ea6
  replace E := xb_some E; obtain ⟨v4, h5, ev4, E⟩ := E
  refine go_callV (y := yX12_doubted) (n := 1708) (st := [vl v1]) (as := []) (stk9 := [vl v4, vl v1]) (OX12_doubted ev4) yw_X12_doubted ci_12 ga6 wml_RL_226 wim_X12_doubted wse_X12_doubted (Nat.le_of_ble_eq_true rfl) rfl ⟨Nat.le_of_ble_eq_true rfl, Nat.le_of_ble_eq_true rfl⟩ (Nat.le_of_ble_eq_true rfl) dL_law_1705 rfl (by cases fa6; rfl) rfl ?_
  refine go_lcmp (n := 1709) dL_law_1708 rfl ?_
  refine go_if_eq (tgt := 2868) (n := 1712) dL_law_1709 rfl rfl (fun c7 => ?_) (fun c7 => ?_)
  · rw [if_pos c7] at E
    exact SXL_law_L2868 sl sc Q nm hSc hEnd _ hrc23 _ _ _ _  _ E
  · rw [if_neg c7] at E
    refine go_iconst (z := 0) (n := 1713) ⟨by decide, by decide⟩ dL_law_1712 rfl ?_
    exact absurd (Prod.mk.inj (Option.some.inj E)).1 (by decide)
noncomputable def XL_law_L1786 (F : Nat) (sl : Nat) (sc : Nat → Int) (rc23 : Option Nat → Option Nat → Option Nat → Int → HP → Option (Int × HP)) (l1 : Option Nat) (l2 : Option Nat) (l3 : Option Nat) (l4 : Int)  (h : HP) : Option (Int × HP) :=
  XL_law_L2868 F sl sc rc23 l1 l2 l3 l4 h
set_option maxRecDepth 100000 in
theorem SXL_law_L1786 {K : Ctx} {F : Nat} {hf : HP} (sl : Nat) (sc : Nat → Int) (Q : State → Prop) (nm : String) (hSc : ScK K sl sc) (hEnd : ∀ (pc : Nat) (lv : List (Nat × AV)), decode cL_law pc = .ok (.ireturn, 1) → Go K (ML_law nm) Q hf pc lv [vi 1] hf) (rc23 : Option Nat → Option Nat → Option Nat → Int → HP → Option (Int × HP)) (hrc23 : ∀ l1 l2 l3 l4 h, rc23 l1 l2 l3 l4 h = some (1, hf) → Go K (ML_law nm) Q hf 23 [(0, vr (some 4000000)), (1, vr l1), (2, vr l2), (3, vr l3), (4, vi l4)] [] h) (l1 : Option Nat) (l2 : Option Nat) (l3 : Option Nat) (l4 : Int)  (h : HP) (E : XL_law_L1786 F sl sc rc23 l1 l2 l3 l4 h = some (1, hf)) : Go K (ML_law nm) Q hf 1786 [(0, vr (some 4000000)), (1, vr l1), (2, vr l2), (3, vr l3), (4, vi l4)] [] h := by
  unfold XL_law_L1786 at E
  refine go_goto (tgt := 2868) dL_law_1786 rfl ?_
  exact SXL_law_L2868 sl sc Q nm hSc hEnd _ hrc23 _ _ _ _  _ E
noncomputable def XL_law_L1780 (F : Nat) (sl : Nat) (sc : Nat → Int) (rc23 : Option Nat → Option Nat → Option Nat → Int → HP → Option (Int × HP)) (l1 : Option Nat) (l2 : Option Nat) (l3 : Option Nat) (l4 : Int) (s0 : Int) (s1 : Int) (h : HP) : Option (Int × HP) :=
  if (xcmp s1 s0) = 0 then
    XL_law_L1786 F sl sc rc23 l1 l2 l3 l4 h
  else
    some (0, h)
set_option maxRecDepth 100000 in
theorem SXL_law_L1780 {K : Ctx} {F : Nat} {hf : HP} (sl : Nat) (sc : Nat → Int) (Q : State → Prop) (nm : String) (hSc : ScK K sl sc) (hEnd : ∀ (pc : Nat) (lv : List (Nat × AV)), decode cL_law pc = .ok (.ireturn, 1) → Go K (ML_law nm) Q hf pc lv [vi 1] hf) (rc23 : Option Nat → Option Nat → Option Nat → Int → HP → Option (Int × HP)) (hrc23 : ∀ l1 l2 l3 l4 h, rc23 l1 l2 l3 l4 h = some (1, hf) → Go K (ML_law nm) Q hf 23 [(0, vr (some 4000000)), (1, vr l1), (2, vr l2), (3, vr l3), (4, vi l4)] [] h) (l1 : Option Nat) (l2 : Option Nat) (l3 : Option Nat) (l4 : Int) (s0 : Int) (s1 : Int) (h : HP) (E : XL_law_L1780 F sl sc rc23 l1 l2 l3 l4 s0 s1 h = some (1, hf)) : Go K (ML_law nm) Q hf 1780 [(0, vr (some 4000000)), (1, vr l1), (2, vr l2), (3, vr l3), (4, vi l4)] [vl s0, vl s1] h := by
  unfold XL_law_L1780 at E
  refine go_lcmp (n := 1781) dL_law_1780 rfl ?_
  refine go_if_eq (tgt := 1786) (n := 1784) dL_law_1781 rfl rfl (fun c1 => ?_) (fun c1 => ?_)
  · rw [if_pos c1] at E
    exact SXL_law_L1786 sl sc Q nm hSc hEnd _ hrc23 _ _ _ _  _ E
  · rw [if_neg c1] at E
    refine go_iconst (z := 0) (n := 1785) ⟨by decide, by decide⟩ dL_law_1784 rfl ?_
    exact absurd (Prod.mk.inj (Option.some.inj E)).1 (by decide)
noncomputable def XL_law_L1714 (F : Nat) (sl : Nat) (sc : Nat → Int) (rc23 : Option Nat → Option Nat → Option Nat → Int → HP → Option (Int × HP)) (l1 : Option Nat) (l2 : Option Nat) (l3 : Option Nat) (l4 : Int)  (h : HP) : Option (Int × HP) :=
  (xsc sl sc (w32 (l4 + 1))).bind fun v1 =>
  (xsc sl sc (w32 (l4 + 2))).bind fun v2 =>
  xb (XL_doubt F l1 v1 v2 l3 h) fun v3 h4 =>
  (xsc sl sc (w32 (l4 + 1))).bind fun v5 =>
  (xsc sl sc (w32 (l4 + 2))).bind fun v6 =>
  (xrc h4 l2 12 31).bind fun a9 =>
  xb (X12_doubt F a9 v5 v6 h4) fun v7 h8 =>
  (xrc h8 l2 12 31).bind fun a12 =>
  xb (X12_thrown F a12 h8) fun v10 h11 =>
  if v10 = v3 then
    if v3 = 0 then
      (xaJ h11 l3 0).bind fun v15 =>
      XL_law_L1780 F sl sc rc23 l1 l2 l3 l4 (if v7 = 0 then 0 else 1) v15 h11
    else
      XL_law_L1786 F sl sc rc23 l1 l2 l3 l4 h11
  else
    some (0, h11)
set_option maxRecDepth 100000 in
theorem SXL_law_L1714 {K : Ctx} {F : Nat} {hf : HP} (sl : Nat) (sc : Nat → Int) (Q : State → Prop) (nm : String) (hSc : ScK K sl sc) (hEnd : ∀ (pc : Nat) (lv : List (Nat × AV)), decode cL_law pc = .ok (.ireturn, 1) → Go K (ML_law nm) Q hf pc lv [vi 1] hf) (rc23 : Option Nat → Option Nat → Option Nat → Int → HP → Option (Int × HP)) (hrc23 : ∀ l1 l2 l3 l4 h, rc23 l1 l2 l3 l4 h = some (1, hf) → Go K (ML_law nm) Q hf 23 [(0, vr (some 4000000)), (1, vr l1), (2, vr l2), (3, vr l3), (4, vi l4)] [] h) (l1 : Option Nat) (l2 : Option Nat) (l3 : Option Nat) (l4 : Int)  (h : HP) (E : XL_law_L1714 F sl sc rc23 l1 l2 l3 l4 h = some (1, hf)) : Go K (ML_law nm) Q hf 1714 [(0, vr (some 4000000)), (1, vr l1), (2, vr l2), (3, vr l3), (4, vi l4)] [] h := by
  unfold XL_law_L1714 at E
  refine go_aload_n (j := 1) (n := 1715) rfl rfl dL_law_1714 rfl ?_
  refine go_aload_n (j := 0) (n := 1716) rfl rfl dL_law_1715 rfl ?_
  refine go_iload (j := 4) (n := 1718) rfl dL_law_1716 rfl ?_
  refine go_iconst (z := 1) (n := 1719) ⟨by decide, by decide⟩ dL_law_1718 rfl ?_
  refine go_iadd (n := 1720) dL_law_1719 rfl ?_
  replace E := Option.bind_eq_some_iff.mp E; obtain ⟨v1, ev1, E⟩ := E
  refine go_sld (n := 1721) hSc ev1 dL_law_1720 rfl ?_
  refine go_aload_n (j := 0) (n := 1722) rfl rfl dL_law_1721 rfl ?_
  refine go_iload (j := 4) (n := 1724) rfl dL_law_1722 rfl ?_
  refine go_iconst (z := 2) (n := 1725) ⟨by decide, by decide⟩ dL_law_1724 rfl ?_
  refine go_iadd (n := 1726) dL_law_1725 rfl ?_
  replace E := Option.bind_eq_some_iff.mp E; obtain ⟨v2, ev2, E⟩ := E
  refine go_sld (n := 1727) hSc ev2 dL_law_1726 rfl ?_
  refine go_aload_n (j := 3) (n := 1728) rfl rfl dL_law_1727 rfl ?_
  replace E := xb_some E; obtain ⟨v3, h4, ev3, E⟩ := E
  refine go_callSW (y := yL_doubt) (n := 1731) (st := []) (as := [vr l1, vi v1, vi v2, vr l3]) (stk9 := [vi v3]) (OXL_doubt ev3) yw_L_doubt wml_RL_227 wst_L_doubt (Nat.le_of_ble_eq_true rfl) rfl ⟨Nat.le_of_ble_eq_true rfl, Nat.le_of_ble_eq_true rfl⟩ (Nat.le_of_ble_eq_true rfl) dL_law_1728 rfl rfl rfl ?_
  refine go_istore (n := 1733) (lv' := [(5, vi v3), (0, vr (some 4000000)), (1, vr l1), (2, vr l2), (3, vr l3), (4, vi l4)]) dL_law_1731 rfl (Nat.le_of_ble_eq_true rfl) rfl ?_
  refine go_aload_n (j := 3) (n := 1734) rfl rfl dL_law_1733 rfl ?_
  refine go_aload_n (j := 1) (n := 1735) rfl rfl dL_law_1734 rfl ?_
  refine go_iload (j := 5) (n := 1737) rfl dL_law_1735 rfl ?_
  refine go_iconst (z := 1) (n := 1738) ⟨by decide, by decide⟩ dL_law_1737 rfl ?_
  refine go_iadd (n := 1739) dL_law_1738 rfl ?_
  replace E := Option.bind_eq_some_iff.mp E; obtain ⟨v5, ev5, E⟩ := E
  refine go_sld (n := 1740) hSc ev5 dL_law_1739 rfl ?_
  refine go_aload_n (j := 1) (n := 1741) rfl rfl dL_law_1740 rfl ?_
  refine go_iload (j := 5) (n := 1743) rfl dL_law_1741 rfl ?_
  refine go_iconst (z := 2) (n := 1744) ⟨by decide, by decide⟩ dL_law_1743 rfl ?_
  refine go_iadd (n := 1745) dL_law_1744 rfl ?_
  replace E := Option.bind_eq_some_iff.mp E; obtain ⟨v6, ev6, E⟩ := E
  refine go_sld (n := 1746) hSc ev6 dL_law_1745 rfl ?_
  replace E := Option.bind_eq_some_iff.mp E; obtain ⟨a9, ea9, E⟩ := E
  obtain ⟨fa9, ga9⟩ := xrc_some ea9
  replace E := xb_some E; obtain ⟨v7, h8, ev7, E⟩ := E
  refine go_callV (y := yX12_doubt) (n := 1749) (st := []) (as := [vi v5, vi v6]) (stk9 := [vi v7]) (OX12_doubt ev7) yw_X12_doubt ci_12 ga9 wml_RL_229 wim_X12_doubt wse_X12_doubt (Nat.le_of_ble_eq_true rfl) rfl ⟨Nat.le_of_ble_eq_true rfl, Nat.le_of_ble_eq_true rfl⟩ (Nat.le_of_ble_eq_true rfl) dL_law_1746 rfl (by cases fa9; rfl) rfl ?_
  refine go_istore (n := 1751) (lv' := [(6, vi v7), (5, vi v3), (0, vr (some 4000000)), (1, vr l1), (2, vr l2), (3, vr l3), (4, vi l4)]) dL_law_1749 rfl (Nat.le_of_ble_eq_true rfl) rfl ?_
  refine go_aload_n (j := 4) (n := 1752) rfl rfl dL_law_1751 rfl ?_
  replace E := Option.bind_eq_some_iff.mp E; obtain ⟨a12, ea12, E⟩ := E
  obtain ⟨fa12, ga12⟩ := xrc_some ea12
  replace E := xb_some E; obtain ⟨v10, h11, ev10, E⟩ := E
  refine go_callV (y := yX12_thrown) (n := 1755) (st := []) (as := []) (stk9 := [vi v10]) (OX12_thrown ev10) yw_X12_thrown ci_12 ga12 wml_RL_146 wim_X12_thrown wse_X12_thrown (Nat.le_of_ble_eq_true rfl) rfl ⟨Nat.le_of_ble_eq_true rfl, Nat.le_of_ble_eq_true rfl⟩ (Nat.le_of_ble_eq_true rfl) dL_law_1752 rfl (by cases fa12; rfl) rfl ?_
  refine go_iload (j := 1) (n := 1757) rfl dL_law_1755 rfl ?_
  refine go_icmp_eq (tgt := 1762) (n := 1760) dL_law_1757 rfl rfl (fun c13 => ?_) (fun c13 => ?_)
  · rw [if_pos c13] at E
    refine go_iload (j := 1) (n := 1764) rfl dL_law_1762 rfl ?_
    refine go_if_ne (tgt := 1786) (n := 1767) dL_law_1764 rfl rfl (fun c14 => ?_) (fun c14 => ?_)
    · rw [if_neg c14] at E
      refine go_pick (lv' := [(0, vr (some 4000000)), (1, vr l1), (2, vr l2), (3, vr l3), (4, vi l4)]) [2, 3, 4, 5, 6] rfl ?_
      exact SXL_law_L1786 sl sc Q nm hSc hEnd _ hrc23 _ _ _ _  _ E
    · rw [if_pos c14] at E
      refine go_aload_n (j := 5) (n := 1768) rfl rfl dL_law_1767 rfl ?_
      refine go_iconst (z := 0) (n := 1769) ⟨by decide, by decide⟩ dL_law_1768 rfl ?_
      replace E := Option.bind_eq_some_iff.mp E; obtain ⟨v15, ev15, E⟩ := E
      refine go_laload (n := 1770) ev15 dL_law_1769 rfl ?_
      refine go_iload (j := 0) (n := 1772) rfl dL_law_1770 rfl ?_
      refine go_if_eq (tgt := 1779) (n := 1775) dL_law_1772 rfl rfl (fun c16 => ?_) (fun c16 => ?_)
      · simp only [if_pos c16] at E
        refine go_lconst (w := 0) (n := 1780) rfl dL_law_1779 rfl ?_
        refine go_pick (lv' := [(0, vr (some 4000000)), (1, vr l1), (2, vr l2), (3, vr l3), (4, vi l4)]) [2, 3, 4, 5, 6] rfl ?_
        exact SXL_law_L1780 sl sc Q nm hSc hEnd _ hrc23 _ _ _ _ _ _ _ E
      · simp only [if_neg c16] at E
        refine go_lconst (w := 1) (n := 1776) rfl dL_law_1775 rfl ?_
        refine go_goto (tgt := 1780) dL_law_1776 rfl ?_
        refine go_pick (lv' := [(0, vr (some 4000000)), (1, vr l1), (2, vr l2), (3, vr l3), (4, vi l4)]) [2, 3, 4, 5, 6] rfl ?_
        exact SXL_law_L1780 sl sc Q nm hSc hEnd _ hrc23 _ _ _ _ _ _ _ E
  · rw [if_neg c13] at E
    refine go_iconst (z := 0) (n := 1761) ⟨by decide, by decide⟩ dL_law_1760 rfl ?_
    exact absurd (Prod.mk.inj (Option.some.inj E)).1 (by decide)
noncomputable def XL_law_L1890 (F : Nat) (sl : Nat) (sc : Nat → Int) (rc23 : Option Nat → Option Nat → Option Nat → Int → HP → Option (Int × HP)) (l1 : Option Nat) (l2 : Option Nat) (l3 : Option Nat) (l4 : Int)  (h : HP) : Option (Int × HP) :=
  XL_law_L2868 F sl sc rc23 l1 l2 l3 l4 h
set_option maxRecDepth 100000 in
theorem SXL_law_L1890 {K : Ctx} {F : Nat} {hf : HP} (sl : Nat) (sc : Nat → Int) (Q : State → Prop) (nm : String) (hSc : ScK K sl sc) (hEnd : ∀ (pc : Nat) (lv : List (Nat × AV)), decode cL_law pc = .ok (.ireturn, 1) → Go K (ML_law nm) Q hf pc lv [vi 1] hf) (rc23 : Option Nat → Option Nat → Option Nat → Int → HP → Option (Int × HP)) (hrc23 : ∀ l1 l2 l3 l4 h, rc23 l1 l2 l3 l4 h = some (1, hf) → Go K (ML_law nm) Q hf 23 [(0, vr (some 4000000)), (1, vr l1), (2, vr l2), (3, vr l3), (4, vi l4)] [] h) (l1 : Option Nat) (l2 : Option Nat) (l3 : Option Nat) (l4 : Int)  (h : HP) (E : XL_law_L1890 F sl sc rc23 l1 l2 l3 l4 h = some (1, hf)) : Go K (ML_law nm) Q hf 1890 [(0, vr (some 4000000)), (1, vr l1), (2, vr l2), (3, vr l3), (4, vi l4)] [] h := by
  unfold XL_law_L1890 at E
  refine go_goto (tgt := 2868) dL_law_1890 rfl ?_
  exact SXL_law_L2868 sl sc Q nm hSc hEnd _ hrc23 _ _ _ _  _ E
noncomputable def XL_law_L1789 (F : Nat) (sl : Nat) (sc : Nat → Int) (rc23 : Option Nat → Option Nat → Option Nat → Int → HP → Option (Int × HP)) (l1 : Option Nat) (l2 : Option Nat) (l3 : Option Nat) (l4 : Int)  (h : HP) : Option (Int × HP) :=
  (xsc sl sc (w32 (l4 + 1))).bind fun v1 =>
  (xsc sl sc (w32 (l4 + 2))).bind fun v2 =>
  (xsc sl sc (w32 (l4 + 3))).bind fun v3 =>
  (xsc sl sc (w32 (l4 + 4))).bind fun v4 =>
  (xsc sl sc (w32 (l4 + 5))).bind fun v5 =>
  xb (XL_wanted F l1 v1 v2 v3 v4 v5 l3 h) fun v6 h7 =>
  (xsc sl sc (w32 (l4 + 1))).bind fun v8 =>
  (xsc sl sc (w32 (l4 + 2))).bind fun v9 =>
  (xsc sl sc (w32 (l4 + 3))).bind fun v10 =>
  (xsc sl sc (w32 (l4 + 4))).bind fun v11 =>
  (xsc sl sc (w32 (l4 + 5))).bind fun v12 =>
  (xrc h7 l2 12 31).bind fun a15 =>
  xb (X12_wanted F a15 v8 v9 v10 v11 v12 h7) fun v13 h14 =>
  (xrc h14 l2 12 31).bind fun a18 =>
  xb (X12_thrown F a18 h14) fun v16 h17 =>
  if v16 = v6 then
    if v6 = 0 then
      (xaJ h17 l3 0).bind fun v21 =>
      if (xcmp v21 v13) = 0 then
        XL_law_L1890 F sl sc rc23 l1 l2 l3 l4 h17
      else
        some (0, h17)
    else
      XL_law_L1890 F sl sc rc23 l1 l2 l3 l4 h17
  else
    some (0, h17)
set_option maxRecDepth 100000 in
theorem SXL_law_L1789 {K : Ctx} {F : Nat} {hf : HP} (sl : Nat) (sc : Nat → Int) (Q : State → Prop) (nm : String) (hSc : ScK K sl sc) (hEnd : ∀ (pc : Nat) (lv : List (Nat × AV)), decode cL_law pc = .ok (.ireturn, 1) → Go K (ML_law nm) Q hf pc lv [vi 1] hf) (rc23 : Option Nat → Option Nat → Option Nat → Int → HP → Option (Int × HP)) (hrc23 : ∀ l1 l2 l3 l4 h, rc23 l1 l2 l3 l4 h = some (1, hf) → Go K (ML_law nm) Q hf 23 [(0, vr (some 4000000)), (1, vr l1), (2, vr l2), (3, vr l3), (4, vi l4)] [] h) (l1 : Option Nat) (l2 : Option Nat) (l3 : Option Nat) (l4 : Int)  (h : HP) (E : XL_law_L1789 F sl sc rc23 l1 l2 l3 l4 h = some (1, hf)) : Go K (ML_law nm) Q hf 1789 [(0, vr (some 4000000)), (1, vr l1), (2, vr l2), (3, vr l3), (4, vi l4)] [] h := by
  unfold XL_law_L1789 at E
  refine go_aload_n (j := 1) (n := 1790) rfl rfl dL_law_1789 rfl ?_
  refine go_aload_n (j := 0) (n := 1791) rfl rfl dL_law_1790 rfl ?_
  refine go_iload (j := 4) (n := 1793) rfl dL_law_1791 rfl ?_
  refine go_iconst (z := 1) (n := 1794) ⟨by decide, by decide⟩ dL_law_1793 rfl ?_
  refine go_iadd (n := 1795) dL_law_1794 rfl ?_
  replace E := Option.bind_eq_some_iff.mp E; obtain ⟨v1, ev1, E⟩ := E
  refine go_sld (n := 1796) hSc ev1 dL_law_1795 rfl ?_
  refine go_aload_n (j := 0) (n := 1797) rfl rfl dL_law_1796 rfl ?_
  refine go_iload (j := 4) (n := 1799) rfl dL_law_1797 rfl ?_
  refine go_iconst (z := 2) (n := 1800) ⟨by decide, by decide⟩ dL_law_1799 rfl ?_
  refine go_iadd (n := 1801) dL_law_1800 rfl ?_
  replace E := Option.bind_eq_some_iff.mp E; obtain ⟨v2, ev2, E⟩ := E
  refine go_sld (n := 1802) hSc ev2 dL_law_1801 rfl ?_
  refine go_aload_n (j := 0) (n := 1803) rfl rfl dL_law_1802 rfl ?_
  refine go_iload (j := 4) (n := 1805) rfl dL_law_1803 rfl ?_
  refine go_iconst (z := 3) (n := 1806) ⟨by decide, by decide⟩ dL_law_1805 rfl ?_
  refine go_iadd (n := 1807) dL_law_1806 rfl ?_
  replace E := Option.bind_eq_some_iff.mp E; obtain ⟨v3, ev3, E⟩ := E
  refine go_sld (n := 1808) hSc ev3 dL_law_1807 rfl ?_
  refine go_aload_n (j := 0) (n := 1809) rfl rfl dL_law_1808 rfl ?_
  refine go_iload (j := 4) (n := 1811) rfl dL_law_1809 rfl ?_
  refine go_iconst (z := 4) (n := 1812) ⟨by decide, by decide⟩ dL_law_1811 rfl ?_
  refine go_iadd (n := 1813) dL_law_1812 rfl ?_
  replace E := Option.bind_eq_some_iff.mp E; obtain ⟨v4, ev4, E⟩ := E
  refine go_sld (n := 1814) hSc ev4 dL_law_1813 rfl ?_
  refine go_aload_n (j := 0) (n := 1815) rfl rfl dL_law_1814 rfl ?_
  refine go_iload (j := 4) (n := 1817) rfl dL_law_1815 rfl ?_
  refine go_iconst (z := 5) (n := 1818) ⟨by decide, by decide⟩ dL_law_1817 rfl ?_
  refine go_iadd (n := 1819) dL_law_1818 rfl ?_
  replace E := Option.bind_eq_some_iff.mp E; obtain ⟨v5, ev5, E⟩ := E
  refine go_sld (n := 1820) hSc ev5 dL_law_1819 rfl ?_
  refine go_aload_n (j := 3) (n := 1821) rfl rfl dL_law_1820 rfl ?_
  replace E := xb_some E; obtain ⟨v6, h7, ev6, E⟩ := E
  refine go_callSW (y := yL_wanted) (n := 1824) (st := []) (as := [vr l1, vi v1, vi v2, vi v3, vi v4, vi v5, vr l3]) (stk9 := [vi v6]) (OXL_wanted ev6) yw_L_wanted wml_RL_230 wst_L_wanted (Nat.le_of_ble_eq_true rfl) rfl ⟨Nat.le_of_ble_eq_true rfl, Nat.le_of_ble_eq_true rfl⟩ (Nat.le_of_ble_eq_true rfl) dL_law_1821 rfl rfl rfl ?_
  refine go_istore (n := 1826) (lv' := [(5, vi v6), (0, vr (some 4000000)), (1, vr l1), (2, vr l2), (3, vr l3), (4, vi l4)]) dL_law_1824 rfl (Nat.le_of_ble_eq_true rfl) rfl ?_
  refine go_aload_n (j := 3) (n := 1827) rfl rfl dL_law_1826 rfl ?_
  refine go_aload_n (j := 1) (n := 1828) rfl rfl dL_law_1827 rfl ?_
  refine go_iload (j := 5) (n := 1830) rfl dL_law_1828 rfl ?_
  refine go_iconst (z := 1) (n := 1831) ⟨by decide, by decide⟩ dL_law_1830 rfl ?_
  refine go_iadd (n := 1832) dL_law_1831 rfl ?_
  replace E := Option.bind_eq_some_iff.mp E; obtain ⟨v8, ev8, E⟩ := E
  refine go_sld (n := 1833) hSc ev8 dL_law_1832 rfl ?_
  refine go_aload_n (j := 1) (n := 1834) rfl rfl dL_law_1833 rfl ?_
  refine go_iload (j := 5) (n := 1836) rfl dL_law_1834 rfl ?_
  refine go_iconst (z := 2) (n := 1837) ⟨by decide, by decide⟩ dL_law_1836 rfl ?_
  refine go_iadd (n := 1838) dL_law_1837 rfl ?_
  replace E := Option.bind_eq_some_iff.mp E; obtain ⟨v9, ev9, E⟩ := E
  refine go_sld (n := 1839) hSc ev9 dL_law_1838 rfl ?_
  refine go_aload_n (j := 1) (n := 1840) rfl rfl dL_law_1839 rfl ?_
  refine go_iload (j := 5) (n := 1842) rfl dL_law_1840 rfl ?_
  refine go_iconst (z := 3) (n := 1843) ⟨by decide, by decide⟩ dL_law_1842 rfl ?_
  refine go_iadd (n := 1844) dL_law_1843 rfl ?_
  replace E := Option.bind_eq_some_iff.mp E; obtain ⟨v10, ev10, E⟩ := E
  refine go_sld (n := 1845) hSc ev10 dL_law_1844 rfl ?_
  refine go_aload_n (j := 1) (n := 1846) rfl rfl dL_law_1845 rfl ?_
  refine go_iload (j := 5) (n := 1848) rfl dL_law_1846 rfl ?_
  refine go_iconst (z := 4) (n := 1849) ⟨by decide, by decide⟩ dL_law_1848 rfl ?_
  refine go_iadd (n := 1850) dL_law_1849 rfl ?_
  replace E := Option.bind_eq_some_iff.mp E; obtain ⟨v11, ev11, E⟩ := E
  refine go_sld (n := 1851) hSc ev11 dL_law_1850 rfl ?_
  refine go_aload_n (j := 1) (n := 1852) rfl rfl dL_law_1851 rfl ?_
  refine go_iload (j := 5) (n := 1854) rfl dL_law_1852 rfl ?_
  refine go_iconst (z := 5) (n := 1855) ⟨by decide, by decide⟩ dL_law_1854 rfl ?_
  refine go_iadd (n := 1856) dL_law_1855 rfl ?_
  replace E := Option.bind_eq_some_iff.mp E; obtain ⟨v12, ev12, E⟩ := E
  refine go_sld (n := 1857) hSc ev12 dL_law_1856 rfl ?_
  replace E := Option.bind_eq_some_iff.mp E; obtain ⟨a15, ea15, E⟩ := E
  obtain ⟨fa15, ga15⟩ := xrc_some ea15
  replace E := xb_some E; obtain ⟨v13, h14, ev13, E⟩ := E
  refine go_callV (y := yX12_wanted) (n := 1860) (st := []) (as := [vi v8, vi v9, vi v10, vi v11, vi v12]) (stk9 := [vi v13]) (OX12_wanted ev13) yw_X12_wanted ci_12 ga15 wml_RL_233 wim_X12_wanted wse_X12_wanted (Nat.le_of_ble_eq_true rfl) rfl ⟨Nat.le_of_ble_eq_true rfl, Nat.le_of_ble_eq_true rfl⟩ (Nat.le_of_ble_eq_true rfl) dL_law_1857 rfl (by cases fa15; rfl) rfl ?_
  refine go_istore (n := 1862) (lv' := [(6, vi v13), (5, vi v6), (0, vr (some 4000000)), (1, vr l1), (2, vr l2), (3, vr l3), (4, vi l4)]) dL_law_1860 rfl (Nat.le_of_ble_eq_true rfl) rfl ?_
  refine go_aload_n (j := 4) (n := 1863) rfl rfl dL_law_1862 rfl ?_
  replace E := Option.bind_eq_some_iff.mp E; obtain ⟨a18, ea18, E⟩ := E
  obtain ⟨fa18, ga18⟩ := xrc_some ea18
  replace E := xb_some E; obtain ⟨v16, h17, ev16, E⟩ := E
  refine go_callV (y := yX12_thrown) (n := 1866) (st := []) (as := []) (stk9 := [vi v16]) (OX12_thrown ev16) yw_X12_thrown ci_12 ga18 wml_RL_146 wim_X12_thrown wse_X12_thrown (Nat.le_of_ble_eq_true rfl) rfl ⟨Nat.le_of_ble_eq_true rfl, Nat.le_of_ble_eq_true rfl⟩ (Nat.le_of_ble_eq_true rfl) dL_law_1863 rfl (by cases fa18; rfl) rfl ?_
  refine go_iload (j := 1) (n := 1868) rfl dL_law_1866 rfl ?_
  refine go_icmp_eq (tgt := 1873) (n := 1871) dL_law_1868 rfl rfl (fun c19 => ?_) (fun c19 => ?_)
  · rw [if_pos c19] at E
    refine go_iload (j := 1) (n := 1875) rfl dL_law_1873 rfl ?_
    refine go_if_ne (tgt := 1890) (n := 1878) dL_law_1875 rfl rfl (fun c20 => ?_) (fun c20 => ?_)
    · rw [if_neg c20] at E
      refine go_pick (lv' := [(0, vr (some 4000000)), (1, vr l1), (2, vr l2), (3, vr l3), (4, vi l4)]) [2, 3, 4, 5, 6] rfl ?_
      exact SXL_law_L1890 sl sc Q nm hSc hEnd _ hrc23 _ _ _ _  _ E
    · rw [if_pos c20] at E
      refine go_aload_n (j := 5) (n := 1879) rfl rfl dL_law_1878 rfl ?_
      refine go_iconst (z := 0) (n := 1880) ⟨by decide, by decide⟩ dL_law_1879 rfl ?_
      replace E := Option.bind_eq_some_iff.mp E; obtain ⟨v21, ev21, E⟩ := E
      refine go_laload (n := 1881) ev21 dL_law_1880 rfl ?_
      refine go_iload (j := 0) (n := 1883) rfl dL_law_1881 rfl ?_
      refine go_i2l (n := 1884) dL_law_1883 rfl ?_
      refine go_lcmp (n := 1885) dL_law_1884 rfl ?_
      refine go_if_eq (tgt := 1890) (n := 1888) dL_law_1885 rfl rfl (fun c22 => ?_) (fun c22 => ?_)
      · rw [if_pos c22] at E
        refine go_pick (lv' := [(0, vr (some 4000000)), (1, vr l1), (2, vr l2), (3, vr l3), (4, vi l4)]) [2, 3, 4, 5, 6] rfl ?_
        exact SXL_law_L1890 sl sc Q nm hSc hEnd _ hrc23 _ _ _ _  _ E
      · rw [if_neg c22] at E
        refine go_iconst (z := 0) (n := 1889) ⟨by decide, by decide⟩ dL_law_1888 rfl ?_
        exact absurd (Prod.mk.inj (Option.some.inj E)).1 (by decide)
  · rw [if_neg c19] at E
    refine go_iconst (z := 0) (n := 1872) ⟨by decide, by decide⟩ dL_law_1871 rfl ?_
    exact absurd (Prod.mk.inj (Option.some.inj E)).1 (by decide)
noncomputable def XL_law_L1970 (F : Nat) (sl : Nat) (sc : Nat → Int) (rc23 : Option Nat → Option Nat → Option Nat → Int → HP → Option (Int × HP)) (l1 : Option Nat) (l2 : Option Nat) (l3 : Option Nat) (l4 : Int)  (h : HP) : Option (Int × HP) :=
  XL_law_L2868 F sl sc rc23 l1 l2 l3 l4 h
set_option maxRecDepth 100000 in
theorem SXL_law_L1970 {K : Ctx} {F : Nat} {hf : HP} (sl : Nat) (sc : Nat → Int) (Q : State → Prop) (nm : String) (hSc : ScK K sl sc) (hEnd : ∀ (pc : Nat) (lv : List (Nat × AV)), decode cL_law pc = .ok (.ireturn, 1) → Go K (ML_law nm) Q hf pc lv [vi 1] hf) (rc23 : Option Nat → Option Nat → Option Nat → Int → HP → Option (Int × HP)) (hrc23 : ∀ l1 l2 l3 l4 h, rc23 l1 l2 l3 l4 h = some (1, hf) → Go K (ML_law nm) Q hf 23 [(0, vr (some 4000000)), (1, vr l1), (2, vr l2), (3, vr l3), (4, vi l4)] [] h) (l1 : Option Nat) (l2 : Option Nat) (l3 : Option Nat) (l4 : Int)  (h : HP) (E : XL_law_L1970 F sl sc rc23 l1 l2 l3 l4 h = some (1, hf)) : Go K (ML_law nm) Q hf 1970 [(0, vr (some 4000000)), (1, vr l1), (2, vr l2), (3, vr l3), (4, vi l4)] [] h := by
  unfold XL_law_L1970 at E
  refine go_goto (tgt := 2868) dL_law_1970 rfl ?_
  exact SXL_law_L2868 sl sc Q nm hSc hEnd _ hrc23 _ _ _ _  _ E
noncomputable def XL_law_L1893 (F : Nat) (sl : Nat) (sc : Nat → Int) (rc23 : Option Nat → Option Nat → Option Nat → Int → HP → Option (Int × HP)) (l1 : Option Nat) (l2 : Option Nat) (l3 : Option Nat) (l4 : Int)  (h : HP) : Option (Int × HP) :=
  (xsc sl sc (w32 (l4 + 1))).bind fun v1 =>
  (xsc sl sc (w32 (l4 + 2))).bind fun v2 =>
  (xsc sl sc (w32 (l4 + 3))).bind fun v3 =>
  xb (XL_foretell F l1 v1 v2 v3 l3 h) fun v4 h5 =>
  (xsc sl sc (w32 (l4 + 1))).bind fun v6 =>
  (xsc sl sc (w32 (l4 + 2))).bind fun v7 =>
  (xsc sl sc (w32 (l4 + 3))).bind fun v8 =>
  (xrc h5 l2 12 31).bind fun a11 =>
  xb (X12_foretell F a11 v6 v7 v8 h5) fun v9 h10 =>
  (xrc h10 l2 12 31).bind fun a14 =>
  xb (X12_thrown F a14 h10) fun v12 h13 =>
  if v12 = v4 then
    if v4 = 0 then
      (xaJ h13 l3 0).bind fun v17 =>
      if (xcmp v17 v9) = 0 then
        XL_law_L1970 F sl sc rc23 l1 l2 l3 l4 h13
      else
        some (0, h13)
    else
      XL_law_L1970 F sl sc rc23 l1 l2 l3 l4 h13
  else
    some (0, h13)
set_option maxRecDepth 100000 in
theorem SXL_law_L1893 {K : Ctx} {F : Nat} {hf : HP} (sl : Nat) (sc : Nat → Int) (Q : State → Prop) (nm : String) (hSc : ScK K sl sc) (hEnd : ∀ (pc : Nat) (lv : List (Nat × AV)), decode cL_law pc = .ok (.ireturn, 1) → Go K (ML_law nm) Q hf pc lv [vi 1] hf) (rc23 : Option Nat → Option Nat → Option Nat → Int → HP → Option (Int × HP)) (hrc23 : ∀ l1 l2 l3 l4 h, rc23 l1 l2 l3 l4 h = some (1, hf) → Go K (ML_law nm) Q hf 23 [(0, vr (some 4000000)), (1, vr l1), (2, vr l2), (3, vr l3), (4, vi l4)] [] h) (l1 : Option Nat) (l2 : Option Nat) (l3 : Option Nat) (l4 : Int)  (h : HP) (E : XL_law_L1893 F sl sc rc23 l1 l2 l3 l4 h = some (1, hf)) : Go K (ML_law nm) Q hf 1893 [(0, vr (some 4000000)), (1, vr l1), (2, vr l2), (3, vr l3), (4, vi l4)] [] h := by
  unfold XL_law_L1893 at E
  refine go_aload_n (j := 1) (n := 1894) rfl rfl dL_law_1893 rfl ?_
  refine go_aload_n (j := 0) (n := 1895) rfl rfl dL_law_1894 rfl ?_
  refine go_iload (j := 4) (n := 1897) rfl dL_law_1895 rfl ?_
  refine go_iconst (z := 1) (n := 1898) ⟨by decide, by decide⟩ dL_law_1897 rfl ?_
  refine go_iadd (n := 1899) dL_law_1898 rfl ?_
  replace E := Option.bind_eq_some_iff.mp E; obtain ⟨v1, ev1, E⟩ := E
  refine go_sld (n := 1900) hSc ev1 dL_law_1899 rfl ?_
  refine go_aload_n (j := 0) (n := 1901) rfl rfl dL_law_1900 rfl ?_
  refine go_iload (j := 4) (n := 1903) rfl dL_law_1901 rfl ?_
  refine go_iconst (z := 2) (n := 1904) ⟨by decide, by decide⟩ dL_law_1903 rfl ?_
  refine go_iadd (n := 1905) dL_law_1904 rfl ?_
  replace E := Option.bind_eq_some_iff.mp E; obtain ⟨v2, ev2, E⟩ := E
  refine go_sld (n := 1906) hSc ev2 dL_law_1905 rfl ?_
  refine go_aload_n (j := 0) (n := 1907) rfl rfl dL_law_1906 rfl ?_
  refine go_iload (j := 4) (n := 1909) rfl dL_law_1907 rfl ?_
  refine go_iconst (z := 3) (n := 1910) ⟨by decide, by decide⟩ dL_law_1909 rfl ?_
  refine go_iadd (n := 1911) dL_law_1910 rfl ?_
  replace E := Option.bind_eq_some_iff.mp E; obtain ⟨v3, ev3, E⟩ := E
  refine go_sld (n := 1912) hSc ev3 dL_law_1911 rfl ?_
  refine go_aload_n (j := 3) (n := 1913) rfl rfl dL_law_1912 rfl ?_
  replace E := xb_some E; obtain ⟨v4, h5, ev4, E⟩ := E
  refine go_callSW (y := yL_foretell) (n := 1916) (st := []) (as := [vr l1, vi v1, vi v2, vi v3, vr l3]) (stk9 := [vi v4]) (OXL_foretell ev4) yw_L_foretell wml_RL_234 wst_L_foretell (Nat.le_of_ble_eq_true rfl) rfl ⟨Nat.le_of_ble_eq_true rfl, Nat.le_of_ble_eq_true rfl⟩ (Nat.le_of_ble_eq_true rfl) dL_law_1913 rfl rfl rfl ?_
  refine go_istore (n := 1918) (lv' := [(5, vi v4), (0, vr (some 4000000)), (1, vr l1), (2, vr l2), (3, vr l3), (4, vi l4)]) dL_law_1916 rfl (Nat.le_of_ble_eq_true rfl) rfl ?_
  refine go_aload_n (j := 3) (n := 1919) rfl rfl dL_law_1918 rfl ?_
  refine go_aload_n (j := 1) (n := 1920) rfl rfl dL_law_1919 rfl ?_
  refine go_iload (j := 5) (n := 1922) rfl dL_law_1920 rfl ?_
  refine go_iconst (z := 1) (n := 1923) ⟨by decide, by decide⟩ dL_law_1922 rfl ?_
  refine go_iadd (n := 1924) dL_law_1923 rfl ?_
  replace E := Option.bind_eq_some_iff.mp E; obtain ⟨v6, ev6, E⟩ := E
  refine go_sld (n := 1925) hSc ev6 dL_law_1924 rfl ?_
  refine go_aload_n (j := 1) (n := 1926) rfl rfl dL_law_1925 rfl ?_
  refine go_iload (j := 5) (n := 1928) rfl dL_law_1926 rfl ?_
  refine go_iconst (z := 2) (n := 1929) ⟨by decide, by decide⟩ dL_law_1928 rfl ?_
  refine go_iadd (n := 1930) dL_law_1929 rfl ?_
  replace E := Option.bind_eq_some_iff.mp E; obtain ⟨v7, ev7, E⟩ := E
  refine go_sld (n := 1931) hSc ev7 dL_law_1930 rfl ?_
  refine go_aload_n (j := 1) (n := 1932) rfl rfl dL_law_1931 rfl ?_
  refine go_iload (j := 5) (n := 1934) rfl dL_law_1932 rfl ?_
  refine go_iconst (z := 3) (n := 1935) ⟨by decide, by decide⟩ dL_law_1934 rfl ?_
  refine go_iadd (n := 1936) dL_law_1935 rfl ?_
  replace E := Option.bind_eq_some_iff.mp E; obtain ⟨v8, ev8, E⟩ := E
  refine go_sld (n := 1937) hSc ev8 dL_law_1936 rfl ?_
  replace E := Option.bind_eq_some_iff.mp E; obtain ⟨a11, ea11, E⟩ := E
  obtain ⟨fa11, ga11⟩ := xrc_some ea11
  replace E := xb_some E; obtain ⟨v9, h10, ev9, E⟩ := E
  refine go_callV (y := yX12_foretell) (n := 1940) (st := []) (as := [vi v6, vi v7, vi v8]) (stk9 := [vi v9]) (OX12_foretell ev9) yw_X12_foretell ci_12 ga11 wml_RL_236 wim_X12_foretell wse_X12_foretell (Nat.le_of_ble_eq_true rfl) rfl ⟨Nat.le_of_ble_eq_true rfl, Nat.le_of_ble_eq_true rfl⟩ (Nat.le_of_ble_eq_true rfl) dL_law_1937 rfl (by cases fa11; rfl) rfl ?_
  refine go_istore (n := 1942) (lv' := [(6, vi v9), (5, vi v4), (0, vr (some 4000000)), (1, vr l1), (2, vr l2), (3, vr l3), (4, vi l4)]) dL_law_1940 rfl (Nat.le_of_ble_eq_true rfl) rfl ?_
  refine go_aload_n (j := 4) (n := 1943) rfl rfl dL_law_1942 rfl ?_
  replace E := Option.bind_eq_some_iff.mp E; obtain ⟨a14, ea14, E⟩ := E
  obtain ⟨fa14, ga14⟩ := xrc_some ea14
  replace E := xb_some E; obtain ⟨v12, h13, ev12, E⟩ := E
  refine go_callV (y := yX12_thrown) (n := 1946) (st := []) (as := []) (stk9 := [vi v12]) (OX12_thrown ev12) yw_X12_thrown ci_12 ga14 wml_RL_146 wim_X12_thrown wse_X12_thrown (Nat.le_of_ble_eq_true rfl) rfl ⟨Nat.le_of_ble_eq_true rfl, Nat.le_of_ble_eq_true rfl⟩ (Nat.le_of_ble_eq_true rfl) dL_law_1943 rfl (by cases fa14; rfl) rfl ?_
  refine go_iload (j := 1) (n := 1948) rfl dL_law_1946 rfl ?_
  refine go_icmp_eq (tgt := 1953) (n := 1951) dL_law_1948 rfl rfl (fun c15 => ?_) (fun c15 => ?_)
  · rw [if_pos c15] at E
    refine go_iload (j := 1) (n := 1955) rfl dL_law_1953 rfl ?_
    refine go_if_ne (tgt := 1970) (n := 1958) dL_law_1955 rfl rfl (fun c16 => ?_) (fun c16 => ?_)
    · rw [if_neg c16] at E
      refine go_pick (lv' := [(0, vr (some 4000000)), (1, vr l1), (2, vr l2), (3, vr l3), (4, vi l4)]) [2, 3, 4, 5, 6] rfl ?_
      exact SXL_law_L1970 sl sc Q nm hSc hEnd _ hrc23 _ _ _ _  _ E
    · rw [if_pos c16] at E
      refine go_aload_n (j := 5) (n := 1959) rfl rfl dL_law_1958 rfl ?_
      refine go_iconst (z := 0) (n := 1960) ⟨by decide, by decide⟩ dL_law_1959 rfl ?_
      replace E := Option.bind_eq_some_iff.mp E; obtain ⟨v17, ev17, E⟩ := E
      refine go_laload (n := 1961) ev17 dL_law_1960 rfl ?_
      refine go_iload (j := 0) (n := 1963) rfl dL_law_1961 rfl ?_
      refine go_i2l (n := 1964) dL_law_1963 rfl ?_
      refine go_lcmp (n := 1965) dL_law_1964 rfl ?_
      refine go_if_eq (tgt := 1970) (n := 1968) dL_law_1965 rfl rfl (fun c18 => ?_) (fun c18 => ?_)
      · rw [if_pos c18] at E
        refine go_pick (lv' := [(0, vr (some 4000000)), (1, vr l1), (2, vr l2), (3, vr l3), (4, vi l4)]) [2, 3, 4, 5, 6] rfl ?_
        exact SXL_law_L1970 sl sc Q nm hSc hEnd _ hrc23 _ _ _ _  _ E
      · rw [if_neg c18] at E
        refine go_iconst (z := 0) (n := 1969) ⟨by decide, by decide⟩ dL_law_1968 rfl ?_
        exact absurd (Prod.mk.inj (Option.some.inj E)).1 (by decide)
  · rw [if_neg c15] at E
    refine go_iconst (z := 0) (n := 1952) ⟨by decide, by decide⟩ dL_law_1951 rfl ?_
    exact absurd (Prod.mk.inj (Option.some.inj E)).1 (by decide)
noncomputable def XL_law_L2045 (F : Nat) (sl : Nat) (sc : Nat → Int) (rc23 : Option Nat → Option Nat → Option Nat → Int → HP → Option (Int × HP)) (l1 : Option Nat) (l2 : Option Nat) (l3 : Option Nat) (l4 : Int)  (h : HP) : Option (Int × HP) :=
  XL_law_L2868 F sl sc rc23 l1 l2 l3 l4 h
set_option maxRecDepth 100000 in
theorem SXL_law_L2045 {K : Ctx} {F : Nat} {hf : HP} (sl : Nat) (sc : Nat → Int) (Q : State → Prop) (nm : String) (hSc : ScK K sl sc) (hEnd : ∀ (pc : Nat) (lv : List (Nat × AV)), decode cL_law pc = .ok (.ireturn, 1) → Go K (ML_law nm) Q hf pc lv [vi 1] hf) (rc23 : Option Nat → Option Nat → Option Nat → Int → HP → Option (Int × HP)) (hrc23 : ∀ l1 l2 l3 l4 h, rc23 l1 l2 l3 l4 h = some (1, hf) → Go K (ML_law nm) Q hf 23 [(0, vr (some 4000000)), (1, vr l1), (2, vr l2), (3, vr l3), (4, vi l4)] [] h) (l1 : Option Nat) (l2 : Option Nat) (l3 : Option Nat) (l4 : Int)  (h : HP) (E : XL_law_L2045 F sl sc rc23 l1 l2 l3 l4 h = some (1, hf)) : Go K (ML_law nm) Q hf 2045 [(0, vr (some 4000000)), (1, vr l1), (2, vr l2), (3, vr l3), (4, vi l4)] [] h := by
  unfold XL_law_L2045 at E
  refine go_goto (tgt := 2868) dL_law_2045 rfl ?_
  exact SXL_law_L2868 sl sc Q nm hSc hEnd _ hrc23 _ _ _ _  _ E
noncomputable def XL_law_L2039 (F : Nat) (sl : Nat) (sc : Nat → Int) (rc23 : Option Nat → Option Nat → Option Nat → Int → HP → Option (Int × HP)) (l1 : Option Nat) (l2 : Option Nat) (l3 : Option Nat) (l4 : Int) (s0 : Int) (s1 : Int) (h : HP) : Option (Int × HP) :=
  if (xcmp s1 s0) = 0 then
    XL_law_L2045 F sl sc rc23 l1 l2 l3 l4 h
  else
    some (0, h)
set_option maxRecDepth 100000 in
theorem SXL_law_L2039 {K : Ctx} {F : Nat} {hf : HP} (sl : Nat) (sc : Nat → Int) (Q : State → Prop) (nm : String) (hSc : ScK K sl sc) (hEnd : ∀ (pc : Nat) (lv : List (Nat × AV)), decode cL_law pc = .ok (.ireturn, 1) → Go K (ML_law nm) Q hf pc lv [vi 1] hf) (rc23 : Option Nat → Option Nat → Option Nat → Int → HP → Option (Int × HP)) (hrc23 : ∀ l1 l2 l3 l4 h, rc23 l1 l2 l3 l4 h = some (1, hf) → Go K (ML_law nm) Q hf 23 [(0, vr (some 4000000)), (1, vr l1), (2, vr l2), (3, vr l3), (4, vi l4)] [] h) (l1 : Option Nat) (l2 : Option Nat) (l3 : Option Nat) (l4 : Int) (s0 : Int) (s1 : Int) (h : HP) (E : XL_law_L2039 F sl sc rc23 l1 l2 l3 l4 s0 s1 h = some (1, hf)) : Go K (ML_law nm) Q hf 2039 [(0, vr (some 4000000)), (1, vr l1), (2, vr l2), (3, vr l3), (4, vi l4)] [vl s0, vl s1] h := by
  unfold XL_law_L2039 at E
  refine go_lcmp (n := 2040) dL_law_2039 rfl ?_
  refine go_if_eq (tgt := 2045) (n := 2043) dL_law_2040 rfl rfl (fun c1 => ?_) (fun c1 => ?_)
  · rw [if_pos c1] at E
    exact SXL_law_L2045 sl sc Q nm hSc hEnd _ hrc23 _ _ _ _  _ E
  · rw [if_neg c1] at E
    refine go_iconst (z := 0) (n := 2044) ⟨by decide, by decide⟩ dL_law_2043 rfl ?_
    exact absurd (Prod.mk.inj (Option.some.inj E)).1 (by decide)
noncomputable def XL_law_L1973 (F : Nat) (sl : Nat) (sc : Nat → Int) (rc23 : Option Nat → Option Nat → Option Nat → Int → HP → Option (Int × HP)) (l1 : Option Nat) (l2 : Option Nat) (l3 : Option Nat) (l4 : Int)  (h : HP) : Option (Int × HP) :=
  (xsc sl sc (w32 (l4 + 1))).bind fun v1 =>
  (xsc sl sc (w32 (l4 + 2))).bind fun v2 =>
  xb (XL_far F l1 v1 v2 l3 h) fun v3 h4 =>
  (xsc sl sc (w32 (l4 + 1))).bind fun v5 =>
  (xsc sl sc (w32 (l4 + 2))).bind fun v6 =>
  (xrc h4 l2 12 31).bind fun a9 =>
  xb (X12_far F a9 v5 v6 h4) fun v7 h8 =>
  (xrc h8 l2 12 31).bind fun a12 =>
  xb (X12_thrown F a12 h8) fun v10 h11 =>
  if v10 = v3 then
    if v3 = 0 then
      (xaJ h11 l3 0).bind fun v15 =>
      XL_law_L2039 F sl sc rc23 l1 l2 l3 l4 (if v7 = 0 then 0 else 1) v15 h11
    else
      XL_law_L2045 F sl sc rc23 l1 l2 l3 l4 h11
  else
    some (0, h11)
set_option maxRecDepth 100000 in
theorem SXL_law_L1973 {K : Ctx} {F : Nat} {hf : HP} (sl : Nat) (sc : Nat → Int) (Q : State → Prop) (nm : String) (hSc : ScK K sl sc) (hEnd : ∀ (pc : Nat) (lv : List (Nat × AV)), decode cL_law pc = .ok (.ireturn, 1) → Go K (ML_law nm) Q hf pc lv [vi 1] hf) (rc23 : Option Nat → Option Nat → Option Nat → Int → HP → Option (Int × HP)) (hrc23 : ∀ l1 l2 l3 l4 h, rc23 l1 l2 l3 l4 h = some (1, hf) → Go K (ML_law nm) Q hf 23 [(0, vr (some 4000000)), (1, vr l1), (2, vr l2), (3, vr l3), (4, vi l4)] [] h) (l1 : Option Nat) (l2 : Option Nat) (l3 : Option Nat) (l4 : Int)  (h : HP) (E : XL_law_L1973 F sl sc rc23 l1 l2 l3 l4 h = some (1, hf)) : Go K (ML_law nm) Q hf 1973 [(0, vr (some 4000000)), (1, vr l1), (2, vr l2), (3, vr l3), (4, vi l4)] [] h := by
  unfold XL_law_L1973 at E
  refine go_aload_n (j := 1) (n := 1974) rfl rfl dL_law_1973 rfl ?_
  refine go_aload_n (j := 0) (n := 1975) rfl rfl dL_law_1974 rfl ?_
  refine go_iload (j := 4) (n := 1977) rfl dL_law_1975 rfl ?_
  refine go_iconst (z := 1) (n := 1978) ⟨by decide, by decide⟩ dL_law_1977 rfl ?_
  refine go_iadd (n := 1979) dL_law_1978 rfl ?_
  replace E := Option.bind_eq_some_iff.mp E; obtain ⟨v1, ev1, E⟩ := E
  refine go_sld (n := 1980) hSc ev1 dL_law_1979 rfl ?_
  refine go_aload_n (j := 0) (n := 1981) rfl rfl dL_law_1980 rfl ?_
  refine go_iload (j := 4) (n := 1983) rfl dL_law_1981 rfl ?_
  refine go_iconst (z := 2) (n := 1984) ⟨by decide, by decide⟩ dL_law_1983 rfl ?_
  refine go_iadd (n := 1985) dL_law_1984 rfl ?_
  replace E := Option.bind_eq_some_iff.mp E; obtain ⟨v2, ev2, E⟩ := E
  refine go_sld (n := 1986) hSc ev2 dL_law_1985 rfl ?_
  refine go_aload_n (j := 3) (n := 1987) rfl rfl dL_law_1986 rfl ?_
  replace E := xb_some E; obtain ⟨v3, h4, ev3, E⟩ := E
  refine go_callSW (y := yL_far) (n := 1990) (st := []) (as := [vr l1, vi v1, vi v2, vr l3]) (stk9 := [vi v3]) (OXL_far ev3) yw_L_far wml_RL_237 wst_L_far (Nat.le_of_ble_eq_true rfl) rfl ⟨Nat.le_of_ble_eq_true rfl, Nat.le_of_ble_eq_true rfl⟩ (Nat.le_of_ble_eq_true rfl) dL_law_1987 rfl rfl rfl ?_
  refine go_istore (n := 1992) (lv' := [(5, vi v3), (0, vr (some 4000000)), (1, vr l1), (2, vr l2), (3, vr l3), (4, vi l4)]) dL_law_1990 rfl (Nat.le_of_ble_eq_true rfl) rfl ?_
  refine go_aload_n (j := 3) (n := 1993) rfl rfl dL_law_1992 rfl ?_
  refine go_aload_n (j := 1) (n := 1994) rfl rfl dL_law_1993 rfl ?_
  refine go_iload (j := 5) (n := 1996) rfl dL_law_1994 rfl ?_
  refine go_iconst (z := 1) (n := 1997) ⟨by decide, by decide⟩ dL_law_1996 rfl ?_
  refine go_iadd (n := 1998) dL_law_1997 rfl ?_
  replace E := Option.bind_eq_some_iff.mp E; obtain ⟨v5, ev5, E⟩ := E
  refine go_sld (n := 1999) hSc ev5 dL_law_1998 rfl ?_
  refine go_aload_n (j := 1) (n := 2000) rfl rfl dL_law_1999 rfl ?_
  refine go_iload (j := 5) (n := 2002) rfl dL_law_2000 rfl ?_
  refine go_iconst (z := 2) (n := 2003) ⟨by decide, by decide⟩ dL_law_2002 rfl ?_
  refine go_iadd (n := 2004) dL_law_2003 rfl ?_
  replace E := Option.bind_eq_some_iff.mp E; obtain ⟨v6, ev6, E⟩ := E
  refine go_sld (n := 2005) hSc ev6 dL_law_2004 rfl ?_
  replace E := Option.bind_eq_some_iff.mp E; obtain ⟨a9, ea9, E⟩ := E
  obtain ⟨fa9, ga9⟩ := xrc_some ea9
  replace E := xb_some E; obtain ⟨v7, h8, ev7, E⟩ := E
  refine go_callV (y := yX12_far) (n := 2008) (st := []) (as := [vi v5, vi v6]) (stk9 := [vi v7]) (OX12_far ev7) yw_X12_far ci_12 ga9 wml_RL_239 wim_X12_far wse_X12_far (Nat.le_of_ble_eq_true rfl) rfl ⟨Nat.le_of_ble_eq_true rfl, Nat.le_of_ble_eq_true rfl⟩ (Nat.le_of_ble_eq_true rfl) dL_law_2005 rfl (by cases fa9; rfl) rfl ?_
  refine go_istore (n := 2010) (lv' := [(6, vi v7), (5, vi v3), (0, vr (some 4000000)), (1, vr l1), (2, vr l2), (3, vr l3), (4, vi l4)]) dL_law_2008 rfl (Nat.le_of_ble_eq_true rfl) rfl ?_
  refine go_aload_n (j := 4) (n := 2011) rfl rfl dL_law_2010 rfl ?_
  replace E := Option.bind_eq_some_iff.mp E; obtain ⟨a12, ea12, E⟩ := E
  obtain ⟨fa12, ga12⟩ := xrc_some ea12
  replace E := xb_some E; obtain ⟨v10, h11, ev10, E⟩ := E
  refine go_callV (y := yX12_thrown) (n := 2014) (st := []) (as := []) (stk9 := [vi v10]) (OX12_thrown ev10) yw_X12_thrown ci_12 ga12 wml_RL_146 wim_X12_thrown wse_X12_thrown (Nat.le_of_ble_eq_true rfl) rfl ⟨Nat.le_of_ble_eq_true rfl, Nat.le_of_ble_eq_true rfl⟩ (Nat.le_of_ble_eq_true rfl) dL_law_2011 rfl (by cases fa12; rfl) rfl ?_
  refine go_iload (j := 1) (n := 2016) rfl dL_law_2014 rfl ?_
  refine go_icmp_eq (tgt := 2021) (n := 2019) dL_law_2016 rfl rfl (fun c13 => ?_) (fun c13 => ?_)
  · rw [if_pos c13] at E
    refine go_iload (j := 1) (n := 2023) rfl dL_law_2021 rfl ?_
    refine go_if_ne (tgt := 2045) (n := 2026) dL_law_2023 rfl rfl (fun c14 => ?_) (fun c14 => ?_)
    · rw [if_neg c14] at E
      refine go_pick (lv' := [(0, vr (some 4000000)), (1, vr l1), (2, vr l2), (3, vr l3), (4, vi l4)]) [2, 3, 4, 5, 6] rfl ?_
      exact SXL_law_L2045 sl sc Q nm hSc hEnd _ hrc23 _ _ _ _  _ E
    · rw [if_pos c14] at E
      refine go_aload_n (j := 5) (n := 2027) rfl rfl dL_law_2026 rfl ?_
      refine go_iconst (z := 0) (n := 2028) ⟨by decide, by decide⟩ dL_law_2027 rfl ?_
      replace E := Option.bind_eq_some_iff.mp E; obtain ⟨v15, ev15, E⟩ := E
      refine go_laload (n := 2029) ev15 dL_law_2028 rfl ?_
      refine go_iload (j := 0) (n := 2031) rfl dL_law_2029 rfl ?_
      refine go_if_eq (tgt := 2038) (n := 2034) dL_law_2031 rfl rfl (fun c16 => ?_) (fun c16 => ?_)
      · simp only [if_pos c16] at E
        refine go_lconst (w := 0) (n := 2039) rfl dL_law_2038 rfl ?_
        refine go_pick (lv' := [(0, vr (some 4000000)), (1, vr l1), (2, vr l2), (3, vr l3), (4, vi l4)]) [2, 3, 4, 5, 6] rfl ?_
        exact SXL_law_L2039 sl sc Q nm hSc hEnd _ hrc23 _ _ _ _ _ _ _ E
      · simp only [if_neg c16] at E
        refine go_lconst (w := 1) (n := 2035) rfl dL_law_2034 rfl ?_
        refine go_goto (tgt := 2039) dL_law_2035 rfl ?_
        refine go_pick (lv' := [(0, vr (some 4000000)), (1, vr l1), (2, vr l2), (3, vr l3), (4, vi l4)]) [2, 3, 4, 5, 6] rfl ?_
        exact SXL_law_L2039 sl sc Q nm hSc hEnd _ hrc23 _ _ _ _ _ _ _ E
  · rw [if_neg c13] at E
    refine go_iconst (z := 0) (n := 2020) ⟨by decide, by decide⟩ dL_law_2019 rfl ?_
    exact absurd (Prod.mk.inj (Option.some.inj E)).1 (by decide)
noncomputable def XL_law_L2048 (F : Nat) (sl : Nat) (sc : Nat → Int) (rc23 : Option Nat → Option Nat → Option Nat → Int → HP → Option (Int × HP)) (l1 : Option Nat) (l2 : Option Nat) (l3 : Option Nat) (l4 : Int)  (h : HP) : Option (Int × HP) :=
  (xsc sl sc (w32 (l4 + 1))).bind fun v1 =>
  (xsc sl sc (w32 (l4 + 2))).bind fun v2 =>
  (xsc sl sc (w32 (l4 + 3))).bind fun v3 =>
  (xsc sl sc (w32 (l4 + 4))).bind fun v4 =>
  (xsc sl sc (w32 (l4 + 5))).bind fun v5 =>
  xb (XL_good F l1 v1 v2 v3 v4 v5 h) fun v6 h7 =>
  (xsc sl sc (w32 (l4 + 1))).bind fun v8 =>
  (xsc sl sc (w32 (l4 + 2))).bind fun v9 =>
  (xsc sl sc (w32 (l4 + 3))).bind fun v10 =>
  (xsc sl sc (w32 (l4 + 4))).bind fun v11 =>
  (xsc sl sc (w32 (l4 + 5))).bind fun v12 =>
  (xrc h7 l2 12 31).bind fun a15 =>
  xb (X12_good F a15 v8 v9 v10 v11 v12 h7) fun v13 h14 =>
  (xrc h14 l2 12 31).bind fun a18 =>
  xb (X12_thrown F a18 h14) fun v16 h17 =>
  if v16 = v6 then
    XL_law_L2868 F sl sc rc23 l1 l2 l3 l4 h17
  else
    some (0, h17)
set_option maxRecDepth 100000 in
theorem SXL_law_L2048 {K : Ctx} {F : Nat} {hf : HP} (sl : Nat) (sc : Nat → Int) (Q : State → Prop) (nm : String) (hSc : ScK K sl sc) (hEnd : ∀ (pc : Nat) (lv : List (Nat × AV)), decode cL_law pc = .ok (.ireturn, 1) → Go K (ML_law nm) Q hf pc lv [vi 1] hf) (rc23 : Option Nat → Option Nat → Option Nat → Int → HP → Option (Int × HP)) (hrc23 : ∀ l1 l2 l3 l4 h, rc23 l1 l2 l3 l4 h = some (1, hf) → Go K (ML_law nm) Q hf 23 [(0, vr (some 4000000)), (1, vr l1), (2, vr l2), (3, vr l3), (4, vi l4)] [] h) (l1 : Option Nat) (l2 : Option Nat) (l3 : Option Nat) (l4 : Int)  (h : HP) (E : XL_law_L2048 F sl sc rc23 l1 l2 l3 l4 h = some (1, hf)) : Go K (ML_law nm) Q hf 2048 [(0, vr (some 4000000)), (1, vr l1), (2, vr l2), (3, vr l3), (4, vi l4)] [] h := by
  unfold XL_law_L2048 at E
  refine go_aload_n (j := 1) (n := 2049) rfl rfl dL_law_2048 rfl ?_
  refine go_aload_n (j := 0) (n := 2050) rfl rfl dL_law_2049 rfl ?_
  refine go_iload (j := 4) (n := 2052) rfl dL_law_2050 rfl ?_
  refine go_iconst (z := 1) (n := 2053) ⟨by decide, by decide⟩ dL_law_2052 rfl ?_
  refine go_iadd (n := 2054) dL_law_2053 rfl ?_
  replace E := Option.bind_eq_some_iff.mp E; obtain ⟨v1, ev1, E⟩ := E
  refine go_sld (n := 2055) hSc ev1 dL_law_2054 rfl ?_
  refine go_aload_n (j := 0) (n := 2056) rfl rfl dL_law_2055 rfl ?_
  refine go_iload (j := 4) (n := 2058) rfl dL_law_2056 rfl ?_
  refine go_iconst (z := 2) (n := 2059) ⟨by decide, by decide⟩ dL_law_2058 rfl ?_
  refine go_iadd (n := 2060) dL_law_2059 rfl ?_
  replace E := Option.bind_eq_some_iff.mp E; obtain ⟨v2, ev2, E⟩ := E
  refine go_sld (n := 2061) hSc ev2 dL_law_2060 rfl ?_
  refine go_aload_n (j := 0) (n := 2062) rfl rfl dL_law_2061 rfl ?_
  refine go_iload (j := 4) (n := 2064) rfl dL_law_2062 rfl ?_
  refine go_iconst (z := 3) (n := 2065) ⟨by decide, by decide⟩ dL_law_2064 rfl ?_
  refine go_iadd (n := 2066) dL_law_2065 rfl ?_
  replace E := Option.bind_eq_some_iff.mp E; obtain ⟨v3, ev3, E⟩ := E
  refine go_sld (n := 2067) hSc ev3 dL_law_2066 rfl ?_
  refine go_aload_n (j := 0) (n := 2068) rfl rfl dL_law_2067 rfl ?_
  refine go_iload (j := 4) (n := 2070) rfl dL_law_2068 rfl ?_
  refine go_iconst (z := 4) (n := 2071) ⟨by decide, by decide⟩ dL_law_2070 rfl ?_
  refine go_iadd (n := 2072) dL_law_2071 rfl ?_
  replace E := Option.bind_eq_some_iff.mp E; obtain ⟨v4, ev4, E⟩ := E
  refine go_sld (n := 2073) hSc ev4 dL_law_2072 rfl ?_
  refine go_aload_n (j := 0) (n := 2074) rfl rfl dL_law_2073 rfl ?_
  refine go_iload (j := 4) (n := 2076) rfl dL_law_2074 rfl ?_
  refine go_iconst (z := 5) (n := 2077) ⟨by decide, by decide⟩ dL_law_2076 rfl ?_
  refine go_iadd (n := 2078) dL_law_2077 rfl ?_
  replace E := Option.bind_eq_some_iff.mp E; obtain ⟨v5, ev5, E⟩ := E
  refine go_sld (n := 2079) hSc ev5 dL_law_2078 rfl ?_
  replace E := xb_some E; obtain ⟨v6, h7, ev6, E⟩ := E
  refine go_callSW (y := yL_good) (n := 2082) (st := []) (as := [vr l1, vi v1, vi v2, vi v3, vi v4, vi v5]) (stk9 := [vi v6]) (OXL_good ev6) yw_L_good wml_RL_240 wst_L_good (Nat.le_of_ble_eq_true rfl) rfl ⟨Nat.le_of_ble_eq_true rfl, Nat.le_of_ble_eq_true rfl⟩ (Nat.le_of_ble_eq_true rfl) dL_law_2079 rfl rfl rfl ?_
  refine go_istore (n := 2084) (lv' := [(5, vi v6), (0, vr (some 4000000)), (1, vr l1), (2, vr l2), (3, vr l3), (4, vi l4)]) dL_law_2082 rfl (Nat.le_of_ble_eq_true rfl) rfl ?_
  refine go_aload_n (j := 3) (n := 2085) rfl rfl dL_law_2084 rfl ?_
  refine go_aload_n (j := 1) (n := 2086) rfl rfl dL_law_2085 rfl ?_
  refine go_iload (j := 5) (n := 2088) rfl dL_law_2086 rfl ?_
  refine go_iconst (z := 1) (n := 2089) ⟨by decide, by decide⟩ dL_law_2088 rfl ?_
  refine go_iadd (n := 2090) dL_law_2089 rfl ?_
  replace E := Option.bind_eq_some_iff.mp E; obtain ⟨v8, ev8, E⟩ := E
  refine go_sld (n := 2091) hSc ev8 dL_law_2090 rfl ?_
  refine go_aload_n (j := 1) (n := 2092) rfl rfl dL_law_2091 rfl ?_
  refine go_iload (j := 5) (n := 2094) rfl dL_law_2092 rfl ?_
  refine go_iconst (z := 2) (n := 2095) ⟨by decide, by decide⟩ dL_law_2094 rfl ?_
  refine go_iadd (n := 2096) dL_law_2095 rfl ?_
  replace E := Option.bind_eq_some_iff.mp E; obtain ⟨v9, ev9, E⟩ := E
  refine go_sld (n := 2097) hSc ev9 dL_law_2096 rfl ?_
  refine go_aload_n (j := 1) (n := 2098) rfl rfl dL_law_2097 rfl ?_
  refine go_iload (j := 5) (n := 2100) rfl dL_law_2098 rfl ?_
  refine go_iconst (z := 3) (n := 2101) ⟨by decide, by decide⟩ dL_law_2100 rfl ?_
  refine go_iadd (n := 2102) dL_law_2101 rfl ?_
  replace E := Option.bind_eq_some_iff.mp E; obtain ⟨v10, ev10, E⟩ := E
  refine go_sld (n := 2103) hSc ev10 dL_law_2102 rfl ?_
  refine go_aload_n (j := 1) (n := 2104) rfl rfl dL_law_2103 rfl ?_
  refine go_iload (j := 5) (n := 2106) rfl dL_law_2104 rfl ?_
  refine go_iconst (z := 4) (n := 2107) ⟨by decide, by decide⟩ dL_law_2106 rfl ?_
  refine go_iadd (n := 2108) dL_law_2107 rfl ?_
  replace E := Option.bind_eq_some_iff.mp E; obtain ⟨v11, ev11, E⟩ := E
  refine go_sld (n := 2109) hSc ev11 dL_law_2108 rfl ?_
  refine go_aload_n (j := 1) (n := 2110) rfl rfl dL_law_2109 rfl ?_
  refine go_iload (j := 5) (n := 2112) rfl dL_law_2110 rfl ?_
  refine go_iconst (z := 5) (n := 2113) ⟨by decide, by decide⟩ dL_law_2112 rfl ?_
  refine go_iadd (n := 2114) dL_law_2113 rfl ?_
  replace E := Option.bind_eq_some_iff.mp E; obtain ⟨v12, ev12, E⟩ := E
  refine go_sld (n := 2115) hSc ev12 dL_law_2114 rfl ?_
  replace E := Option.bind_eq_some_iff.mp E; obtain ⟨a15, ea15, E⟩ := E
  obtain ⟨fa15, ga15⟩ := xrc_some ea15
  replace E := xb_some E; obtain ⟨v13, h14, ev13, E⟩ := E
  refine go_callV (y := yX12_good) (n := 2118) (st := []) (as := [vi v8, vi v9, vi v10, vi v11, vi v12]) (stk9 := []) (OX12_good ev13) yw_X12_good ci_12 ga15 wml_RL_243 wim_X12_good wse_X12_good (Nat.le_of_ble_eq_true rfl) rfl ⟨Nat.le_of_ble_eq_true rfl, Nat.le_of_ble_eq_true rfl⟩ (Nat.le_of_ble_eq_true rfl) dL_law_2115 rfl (by cases fa15; rfl) rfl ?_
  refine go_aload_n (j := 3) (n := 2119) rfl rfl dL_law_2118 rfl ?_
  replace E := Option.bind_eq_some_iff.mp E; obtain ⟨a18, ea18, E⟩ := E
  obtain ⟨fa18, ga18⟩ := xrc_some ea18
  replace E := xb_some E; obtain ⟨v16, h17, ev16, E⟩ := E
  refine go_callV (y := yX12_thrown) (n := 2122) (st := []) (as := []) (stk9 := [vi v16]) (OX12_thrown ev16) yw_X12_thrown ci_12 ga18 wml_RL_146 wim_X12_thrown wse_X12_thrown (Nat.le_of_ble_eq_true rfl) rfl ⟨Nat.le_of_ble_eq_true rfl, Nat.le_of_ble_eq_true rfl⟩ (Nat.le_of_ble_eq_true rfl) dL_law_2119 rfl (by cases fa18; rfl) rfl ?_
  refine go_iload (j := 0) (n := 2124) rfl dL_law_2122 rfl ?_
  refine go_icmp_eq (tgt := 2129) (n := 2127) dL_law_2124 rfl rfl (fun c19 => ?_) (fun c19 => ?_)
  · rw [if_pos c19] at E
    refine go_goto (tgt := 2868) dL_law_2129 rfl ?_
    refine go_pick (lv' := [(0, vr (some 4000000)), (1, vr l1), (2, vr l2), (3, vr l3), (4, vi l4)]) [1, 2, 3, 4, 5] rfl ?_
    exact SXL_law_L2868 sl sc Q nm hSc hEnd _ hrc23 _ _ _ _  _ E
  · rw [if_neg c19] at E
    refine go_iconst (z := 0) (n := 2128) ⟨by decide, by decide⟩ dL_law_2127 rfl ?_
    exact absurd (Prod.mk.inj (Option.some.inj E)).1 (by decide)
noncomputable def XL_law_L2132 (F : Nat) (sl : Nat) (sc : Nat → Int) (rc23 : Option Nat → Option Nat → Option Nat → Int → HP → Option (Int × HP)) (l1 : Option Nat) (l2 : Option Nat) (l3 : Option Nat) (l4 : Int)  (h : HP) : Option (Int × HP) :=
  (xsc sl sc (w32 (l4 + 1))).bind fun v1 =>
  (xsc sl sc (w32 (l4 + 2))).bind fun v2 =>
  (xsc sl sc (w32 (l4 + 3))).bind fun v3 =>
  (xsc sl sc (w32 (l4 + 4))).bind fun v4 =>
  (xsc sl sc (w32 (l4 + 5))).bind fun v5 =>
  xb (XL_fleet F l1 v1 v2 v3 v4 v5 h) fun v6 h7 =>
  (xsc sl sc (w32 (l4 + 1))).bind fun v8 =>
  (xsc sl sc (w32 (l4 + 2))).bind fun v9 =>
  (xsc sl sc (w32 (l4 + 3))).bind fun v10 =>
  (xsc sl sc (w32 (l4 + 4))).bind fun v11 =>
  (xsc sl sc (w32 (l4 + 5))).bind fun v12 =>
  (xrc h7 l2 12 31).bind fun a15 =>
  xb (X12_fleet F a15 v8 v9 v10 v11 v12 h7) fun v13 h14 =>
  (xrc h14 l2 12 31).bind fun a18 =>
  xb (X12_thrown F a18 h14) fun v16 h17 =>
  if v16 = v6 then
    XL_law_L2868 F sl sc rc23 l1 l2 l3 l4 h17
  else
    some (0, h17)
set_option maxRecDepth 100000 in
theorem SXL_law_L2132 {K : Ctx} {F : Nat} {hf : HP} (sl : Nat) (sc : Nat → Int) (Q : State → Prop) (nm : String) (hSc : ScK K sl sc) (hEnd : ∀ (pc : Nat) (lv : List (Nat × AV)), decode cL_law pc = .ok (.ireturn, 1) → Go K (ML_law nm) Q hf pc lv [vi 1] hf) (rc23 : Option Nat → Option Nat → Option Nat → Int → HP → Option (Int × HP)) (hrc23 : ∀ l1 l2 l3 l4 h, rc23 l1 l2 l3 l4 h = some (1, hf) → Go K (ML_law nm) Q hf 23 [(0, vr (some 4000000)), (1, vr l1), (2, vr l2), (3, vr l3), (4, vi l4)] [] h) (l1 : Option Nat) (l2 : Option Nat) (l3 : Option Nat) (l4 : Int)  (h : HP) (E : XL_law_L2132 F sl sc rc23 l1 l2 l3 l4 h = some (1, hf)) : Go K (ML_law nm) Q hf 2132 [(0, vr (some 4000000)), (1, vr l1), (2, vr l2), (3, vr l3), (4, vi l4)] [] h := by
  unfold XL_law_L2132 at E
  refine go_aload_n (j := 1) (n := 2133) rfl rfl dL_law_2132 rfl ?_
  refine go_aload_n (j := 0) (n := 2134) rfl rfl dL_law_2133 rfl ?_
  refine go_iload (j := 4) (n := 2136) rfl dL_law_2134 rfl ?_
  refine go_iconst (z := 1) (n := 2137) ⟨by decide, by decide⟩ dL_law_2136 rfl ?_
  refine go_iadd (n := 2138) dL_law_2137 rfl ?_
  replace E := Option.bind_eq_some_iff.mp E; obtain ⟨v1, ev1, E⟩ := E
  refine go_sld (n := 2139) hSc ev1 dL_law_2138 rfl ?_
  refine go_aload_n (j := 0) (n := 2140) rfl rfl dL_law_2139 rfl ?_
  refine go_iload (j := 4) (n := 2142) rfl dL_law_2140 rfl ?_
  refine go_iconst (z := 2) (n := 2143) ⟨by decide, by decide⟩ dL_law_2142 rfl ?_
  refine go_iadd (n := 2144) dL_law_2143 rfl ?_
  replace E := Option.bind_eq_some_iff.mp E; obtain ⟨v2, ev2, E⟩ := E
  refine go_sld (n := 2145) hSc ev2 dL_law_2144 rfl ?_
  refine go_aload_n (j := 0) (n := 2146) rfl rfl dL_law_2145 rfl ?_
  refine go_iload (j := 4) (n := 2148) rfl dL_law_2146 rfl ?_
  refine go_iconst (z := 3) (n := 2149) ⟨by decide, by decide⟩ dL_law_2148 rfl ?_
  refine go_iadd (n := 2150) dL_law_2149 rfl ?_
  replace E := Option.bind_eq_some_iff.mp E; obtain ⟨v3, ev3, E⟩ := E
  refine go_sld (n := 2151) hSc ev3 dL_law_2150 rfl ?_
  refine go_aload_n (j := 0) (n := 2152) rfl rfl dL_law_2151 rfl ?_
  refine go_iload (j := 4) (n := 2154) rfl dL_law_2152 rfl ?_
  refine go_iconst (z := 4) (n := 2155) ⟨by decide, by decide⟩ dL_law_2154 rfl ?_
  refine go_iadd (n := 2156) dL_law_2155 rfl ?_
  replace E := Option.bind_eq_some_iff.mp E; obtain ⟨v4, ev4, E⟩ := E
  refine go_sld (n := 2157) hSc ev4 dL_law_2156 rfl ?_
  refine go_aload_n (j := 0) (n := 2158) rfl rfl dL_law_2157 rfl ?_
  refine go_iload (j := 4) (n := 2160) rfl dL_law_2158 rfl ?_
  refine go_iconst (z := 5) (n := 2161) ⟨by decide, by decide⟩ dL_law_2160 rfl ?_
  refine go_iadd (n := 2162) dL_law_2161 rfl ?_
  replace E := Option.bind_eq_some_iff.mp E; obtain ⟨v5, ev5, E⟩ := E
  refine go_sld (n := 2163) hSc ev5 dL_law_2162 rfl ?_
  replace E := xb_some E; obtain ⟨v6, h7, ev6, E⟩ := E
  refine go_callSW (y := yL_fleet) (n := 2166) (st := []) (as := [vr l1, vi v1, vi v2, vi v3, vi v4, vi v5]) (stk9 := [vi v6]) (OXL_fleet ev6) yw_L_fleet wml_RL_244 wst_L_fleet (Nat.le_of_ble_eq_true rfl) rfl ⟨Nat.le_of_ble_eq_true rfl, Nat.le_of_ble_eq_true rfl⟩ (Nat.le_of_ble_eq_true rfl) dL_law_2163 rfl rfl rfl ?_
  refine go_istore (n := 2168) (lv' := [(5, vi v6), (0, vr (some 4000000)), (1, vr l1), (2, vr l2), (3, vr l3), (4, vi l4)]) dL_law_2166 rfl (Nat.le_of_ble_eq_true rfl) rfl ?_
  refine go_aload_n (j := 3) (n := 2169) rfl rfl dL_law_2168 rfl ?_
  refine go_aload_n (j := 1) (n := 2170) rfl rfl dL_law_2169 rfl ?_
  refine go_iload (j := 5) (n := 2172) rfl dL_law_2170 rfl ?_
  refine go_iconst (z := 1) (n := 2173) ⟨by decide, by decide⟩ dL_law_2172 rfl ?_
  refine go_iadd (n := 2174) dL_law_2173 rfl ?_
  replace E := Option.bind_eq_some_iff.mp E; obtain ⟨v8, ev8, E⟩ := E
  refine go_sld (n := 2175) hSc ev8 dL_law_2174 rfl ?_
  refine go_aload_n (j := 1) (n := 2176) rfl rfl dL_law_2175 rfl ?_
  refine go_iload (j := 5) (n := 2178) rfl dL_law_2176 rfl ?_
  refine go_iconst (z := 2) (n := 2179) ⟨by decide, by decide⟩ dL_law_2178 rfl ?_
  refine go_iadd (n := 2180) dL_law_2179 rfl ?_
  replace E := Option.bind_eq_some_iff.mp E; obtain ⟨v9, ev9, E⟩ := E
  refine go_sld (n := 2181) hSc ev9 dL_law_2180 rfl ?_
  refine go_aload_n (j := 1) (n := 2182) rfl rfl dL_law_2181 rfl ?_
  refine go_iload (j := 5) (n := 2184) rfl dL_law_2182 rfl ?_
  refine go_iconst (z := 3) (n := 2185) ⟨by decide, by decide⟩ dL_law_2184 rfl ?_
  refine go_iadd (n := 2186) dL_law_2185 rfl ?_
  replace E := Option.bind_eq_some_iff.mp E; obtain ⟨v10, ev10, E⟩ := E
  refine go_sld (n := 2187) hSc ev10 dL_law_2186 rfl ?_
  refine go_aload_n (j := 1) (n := 2188) rfl rfl dL_law_2187 rfl ?_
  refine go_iload (j := 5) (n := 2190) rfl dL_law_2188 rfl ?_
  refine go_iconst (z := 4) (n := 2191) ⟨by decide, by decide⟩ dL_law_2190 rfl ?_
  refine go_iadd (n := 2192) dL_law_2191 rfl ?_
  replace E := Option.bind_eq_some_iff.mp E; obtain ⟨v11, ev11, E⟩ := E
  refine go_sld (n := 2193) hSc ev11 dL_law_2192 rfl ?_
  refine go_aload_n (j := 1) (n := 2194) rfl rfl dL_law_2193 rfl ?_
  refine go_iload (j := 5) (n := 2196) rfl dL_law_2194 rfl ?_
  refine go_iconst (z := 5) (n := 2197) ⟨by decide, by decide⟩ dL_law_2196 rfl ?_
  refine go_iadd (n := 2198) dL_law_2197 rfl ?_
  replace E := Option.bind_eq_some_iff.mp E; obtain ⟨v12, ev12, E⟩ := E
  refine go_sld (n := 2199) hSc ev12 dL_law_2198 rfl ?_
  replace E := Option.bind_eq_some_iff.mp E; obtain ⟨a15, ea15, E⟩ := E
  obtain ⟨fa15, ga15⟩ := xrc_some ea15
  replace E := xb_some E; obtain ⟨v13, h14, ev13, E⟩ := E
  refine go_callV (y := yX12_fleet) (n := 2202) (st := []) (as := [vi v8, vi v9, vi v10, vi v11, vi v12]) (stk9 := []) (OX12_fleet ev13) yw_X12_fleet ci_12 ga15 wml_RL_246 wim_X12_fleet wse_X12_fleet (Nat.le_of_ble_eq_true rfl) rfl ⟨Nat.le_of_ble_eq_true rfl, Nat.le_of_ble_eq_true rfl⟩ (Nat.le_of_ble_eq_true rfl) dL_law_2199 rfl (by cases fa15; rfl) rfl ?_
  refine go_aload_n (j := 3) (n := 2203) rfl rfl dL_law_2202 rfl ?_
  replace E := Option.bind_eq_some_iff.mp E; obtain ⟨a18, ea18, E⟩ := E
  obtain ⟨fa18, ga18⟩ := xrc_some ea18
  replace E := xb_some E; obtain ⟨v16, h17, ev16, E⟩ := E
  refine go_callV (y := yX12_thrown) (n := 2206) (st := []) (as := []) (stk9 := [vi v16]) (OX12_thrown ev16) yw_X12_thrown ci_12 ga18 wml_RL_146 wim_X12_thrown wse_X12_thrown (Nat.le_of_ble_eq_true rfl) rfl ⟨Nat.le_of_ble_eq_true rfl, Nat.le_of_ble_eq_true rfl⟩ (Nat.le_of_ble_eq_true rfl) dL_law_2203 rfl (by cases fa18; rfl) rfl ?_
  refine go_iload (j := 0) (n := 2208) rfl dL_law_2206 rfl ?_
  refine go_icmp_eq (tgt := 2213) (n := 2211) dL_law_2208 rfl rfl (fun c19 => ?_) (fun c19 => ?_)
  · rw [if_pos c19] at E
    refine go_goto (tgt := 2868) dL_law_2213 rfl ?_
    refine go_pick (lv' := [(0, vr (some 4000000)), (1, vr l1), (2, vr l2), (3, vr l3), (4, vi l4)]) [1, 2, 3, 4, 5] rfl ?_
    exact SXL_law_L2868 sl sc Q nm hSc hEnd _ hrc23 _ _ _ _  _ E
  · rw [if_neg c19] at E
    refine go_iconst (z := 0) (n := 2212) ⟨by decide, by decide⟩ dL_law_2211 rfl ?_
    exact absurd (Prod.mk.inj (Option.some.inj E)).1 (by decide)
noncomputable def XL_law_L2249 (F : Nat) (sl : Nat) (sc : Nat → Int) (rc23 : Option Nat → Option Nat → Option Nat → Int → HP → Option (Int × HP)) (l1 : Option Nat) (l2 : Option Nat) (l3 : Option Nat) (l4 : Int) (s0 : Int) (s1 : Option Nat) (s2 : Int) (h : HP) : Option (Int × HP) :=
  (xrc h s1 12 31).bind fun a3 =>
  xb (X12_fill F a3 s0 h) fun v1 h2 =>
  if (xcmp s2 v1) = 0 then
    XL_law_L2868 F sl sc rc23 l1 l2 l3 l4 h2
  else
    some (0, h2)
set_option maxRecDepth 100000 in
theorem SXL_law_L2249 {K : Ctx} {F : Nat} {hf : HP} (sl : Nat) (sc : Nat → Int) (Q : State → Prop) (nm : String) (hSc : ScK K sl sc) (hEnd : ∀ (pc : Nat) (lv : List (Nat × AV)), decode cL_law pc = .ok (.ireturn, 1) → Go K (ML_law nm) Q hf pc lv [vi 1] hf) (rc23 : Option Nat → Option Nat → Option Nat → Int → HP → Option (Int × HP)) (hrc23 : ∀ l1 l2 l3 l4 h, rc23 l1 l2 l3 l4 h = some (1, hf) → Go K (ML_law nm) Q hf 23 [(0, vr (some 4000000)), (1, vr l1), (2, vr l2), (3, vr l3), (4, vi l4)] [] h) (l1 : Option Nat) (l2 : Option Nat) (l3 : Option Nat) (l4 : Int) (s0 : Int) (s1 : Option Nat) (s2 : Int) (h : HP) (E : XL_law_L2249 F sl sc rc23 l1 l2 l3 l4 s0 s1 s2 h = some (1, hf)) : Go K (ML_law nm) Q hf 2249 [(0, vr (some 4000000)), (1, vr l1), (2, vr l2), (3, vr l3), (4, vi l4)] [vi s0, vr s1, vl s2] h := by
  unfold XL_law_L2249 at E
  replace E := Option.bind_eq_some_iff.mp E; obtain ⟨a3, ea3, E⟩ := E
  obtain ⟨fa3, ga3⟩ := xrc_some ea3
  replace E := xb_some E; obtain ⟨v1, h2, ev1, E⟩ := E
  refine go_callV (y := yX12_fill) (n := 2252) (st := [vl s2]) (as := [vi s0]) (stk9 := [vl v1, vl s2]) (OX12_fill ev1) yw_X12_fill ci_12 ga3 wml_RL_251 wim_X12_fill wse_X12_fill (Nat.le_of_ble_eq_true rfl) rfl ⟨Nat.le_of_ble_eq_true rfl, Nat.le_of_ble_eq_true rfl⟩ (Nat.le_of_ble_eq_true rfl) dL_law_2249 rfl (by cases fa3; rfl) rfl ?_
  refine go_lcmp (n := 2253) dL_law_2252 rfl ?_
  refine go_if_eq (tgt := 2868) (n := 2256) dL_law_2253 rfl rfl (fun c4 => ?_) (fun c4 => ?_)
  · rw [if_pos c4] at E
    exact SXL_law_L2868 sl sc Q nm hSc hEnd _ hrc23 _ _ _ _  _ E
  · rw [if_neg c4] at E
    refine go_iconst (z := 0) (n := 2257) ⟨by decide, by decide⟩ dL_law_2256 rfl ?_
    exact absurd (Prod.mk.inj (Option.some.inj E)).1 (by decide)
noncomputable def XL_law_L2231 (F : Nat) (sl : Nat) (sc : Nat → Int) (rc23 : Option Nat → Option Nat → Option Nat → Int → HP → Option (Int × HP)) (l1 : Option Nat) (l2 : Option Nat) (l3 : Option Nat) (l4 : Int) (s0 : Int) (s1 : Option Nat) (h : HP) : Option (Int × HP) :=
  (xrc h s1 11 6).bind fun a3 =>
  xb (X11_fill F a3 s0 h) fun v1 h2 =>
  (xsc sl sc (w32 (l4 + 1))).bind fun v4 =>
  XL_law_L2249 F sl sc rc23 l1 l2 l3 l4 (if v4 = 0 then 0 else 1) l2 v1 h2
set_option maxRecDepth 100000 in
theorem SXL_law_L2231 {K : Ctx} {F : Nat} {hf : HP} (sl : Nat) (sc : Nat → Int) (Q : State → Prop) (nm : String) (hSc : ScK K sl sc) (hEnd : ∀ (pc : Nat) (lv : List (Nat × AV)), decode cL_law pc = .ok (.ireturn, 1) → Go K (ML_law nm) Q hf pc lv [vi 1] hf) (rc23 : Option Nat → Option Nat → Option Nat → Int → HP → Option (Int × HP)) (hrc23 : ∀ l1 l2 l3 l4 h, rc23 l1 l2 l3 l4 h = some (1, hf) → Go K (ML_law nm) Q hf 23 [(0, vr (some 4000000)), (1, vr l1), (2, vr l2), (3, vr l3), (4, vi l4)] [] h) (l1 : Option Nat) (l2 : Option Nat) (l3 : Option Nat) (l4 : Int) (s0 : Int) (s1 : Option Nat) (h : HP) (E : XL_law_L2231 F sl sc rc23 l1 l2 l3 l4 s0 s1 h = some (1, hf)) : Go K (ML_law nm) Q hf 2231 [(0, vr (some 4000000)), (1, vr l1), (2, vr l2), (3, vr l3), (4, vi l4)] [vi s0, vr s1] h := by
  unfold XL_law_L2231 at E
  replace E := Option.bind_eq_some_iff.mp E; obtain ⟨a3, ea3, E⟩ := E
  obtain ⟨fa3, ga3⟩ := xrc_some ea3
  replace E := xb_some E; obtain ⟨v1, h2, ev1, E⟩ := E
  refine go_callV (y := yX11_fill) (n := 2234) (st := []) (as := [vi s0]) (stk9 := [vl v1]) (OX11_fill ev1) yw_X11_fill ci_11 ga3 wml_RL_247 wim_X11_fill wse_X11_fill (Nat.le_of_ble_eq_true rfl) rfl ⟨Nat.le_of_ble_eq_true rfl, Nat.le_of_ble_eq_true rfl⟩ (Nat.le_of_ble_eq_true rfl) dL_law_2231 rfl (by cases fa3; rfl) rfl ?_
  refine go_aload_n (j := 2) (n := 2235) rfl rfl dL_law_2234 rfl ?_
  refine go_aload_n (j := 0) (n := 2236) rfl rfl dL_law_2235 rfl ?_
  refine go_iload (j := 4) (n := 2238) rfl dL_law_2236 rfl ?_
  refine go_iconst (z := 1) (n := 2239) ⟨by decide, by decide⟩ dL_law_2238 rfl ?_
  refine go_iadd (n := 2240) dL_law_2239 rfl ?_
  replace E := Option.bind_eq_some_iff.mp E; obtain ⟨v4, ev4, E⟩ := E
  refine go_sld (n := 2241) hSc ev4 dL_law_2240 rfl ?_
  refine go_if_eq (tgt := 2248) (n := 2244) dL_law_2241 rfl rfl (fun c5 => ?_) (fun c5 => ?_)
  · simp only [if_pos c5] at E
    refine go_iconst (z := 0) (n := 2249) ⟨by decide, by decide⟩ dL_law_2248 rfl ?_
    exact SXL_law_L2249 sl sc Q nm hSc hEnd _ hrc23 _ _ _ _ _ _ _ _ E
  · simp only [if_neg c5] at E
    refine go_iconst (z := 1) (n := 2245) ⟨by decide, by decide⟩ dL_law_2244 rfl ?_
    refine go_goto (tgt := 2249) dL_law_2245 rfl ?_
    exact SXL_law_L2249 sl sc Q nm hSc hEnd _ hrc23 _ _ _ _ _ _ _ _ E
noncomputable def XL_law_L2216 (F : Nat) (sl : Nat) (sc : Nat → Int) (rc23 : Option Nat → Option Nat → Option Nat → Int → HP → Option (Int × HP)) (l1 : Option Nat) (l2 : Option Nat) (l3 : Option Nat) (l4 : Int)  (h : HP) : Option (Int × HP) :=
  (xsc sl sc (w32 (l4 + 1))).bind fun v1 =>
  XL_law_L2231 F sl sc rc23 l1 l2 l3 l4 (if v1 = 0 then 0 else 1) l1 h
set_option maxRecDepth 100000 in
theorem SXL_law_L2216 {K : Ctx} {F : Nat} {hf : HP} (sl : Nat) (sc : Nat → Int) (Q : State → Prop) (nm : String) (hSc : ScK K sl sc) (hEnd : ∀ (pc : Nat) (lv : List (Nat × AV)), decode cL_law pc = .ok (.ireturn, 1) → Go K (ML_law nm) Q hf pc lv [vi 1] hf) (rc23 : Option Nat → Option Nat → Option Nat → Int → HP → Option (Int × HP)) (hrc23 : ∀ l1 l2 l3 l4 h, rc23 l1 l2 l3 l4 h = some (1, hf) → Go K (ML_law nm) Q hf 23 [(0, vr (some 4000000)), (1, vr l1), (2, vr l2), (3, vr l3), (4, vi l4)] [] h) (l1 : Option Nat) (l2 : Option Nat) (l3 : Option Nat) (l4 : Int)  (h : HP) (E : XL_law_L2216 F sl sc rc23 l1 l2 l3 l4 h = some (1, hf)) : Go K (ML_law nm) Q hf 2216 [(0, vr (some 4000000)), (1, vr l1), (2, vr l2), (3, vr l3), (4, vi l4)] [] h := by
  unfold XL_law_L2216 at E
  refine go_aload_n (j := 1) (n := 2217) rfl rfl dL_law_2216 rfl ?_
  refine go_aload_n (j := 0) (n := 2218) rfl rfl dL_law_2217 rfl ?_
  refine go_iload (j := 4) (n := 2220) rfl dL_law_2218 rfl ?_
  refine go_iconst (z := 1) (n := 2221) ⟨by decide, by decide⟩ dL_law_2220 rfl ?_
  refine go_iadd (n := 2222) dL_law_2221 rfl ?_
  replace E := Option.bind_eq_some_iff.mp E; obtain ⟨v1, ev1, E⟩ := E
  refine go_sld (n := 2223) hSc ev1 dL_law_2222 rfl ?_
  refine go_if_eq (tgt := 2230) (n := 2226) dL_law_2223 rfl rfl (fun c2 => ?_) (fun c2 => ?_)
  · simp only [if_pos c2] at E
    refine go_iconst (z := 0) (n := 2231) ⟨by decide, by decide⟩ dL_law_2230 rfl ?_
    exact SXL_law_L2231 sl sc Q nm hSc hEnd _ hrc23 _ _ _ _ _ _ _ E
  · simp only [if_neg c2] at E
    refine go_iconst (z := 1) (n := 2227) ⟨by decide, by decide⟩ dL_law_2226 rfl ?_
    refine go_goto (tgt := 2231) dL_law_2227 rfl ?_
    exact SXL_law_L2231 sl sc Q nm hSc hEnd _ hrc23 _ _ _ _ _ _ _ E
noncomputable def XL_law_L2310 (F : Nat) (sl : Nat) (sc : Nat → Int) (rc23 : Option Nat → Option Nat → Option Nat → Int → HP → Option (Int × HP)) (l1 : Option Nat) (l2 : Option Nat) (l3 : Option Nat) (l4 : Int)  (h : HP) : Option (Int × HP) :=
  XL_law_L2868 F sl sc rc23 l1 l2 l3 l4 h
set_option maxRecDepth 100000 in
theorem SXL_law_L2310 {K : Ctx} {F : Nat} {hf : HP} (sl : Nat) (sc : Nat → Int) (Q : State → Prop) (nm : String) (hSc : ScK K sl sc) (hEnd : ∀ (pc : Nat) (lv : List (Nat × AV)), decode cL_law pc = .ok (.ireturn, 1) → Go K (ML_law nm) Q hf pc lv [vi 1] hf) (rc23 : Option Nat → Option Nat → Option Nat → Int → HP → Option (Int × HP)) (hrc23 : ∀ l1 l2 l3 l4 h, rc23 l1 l2 l3 l4 h = some (1, hf) → Go K (ML_law nm) Q hf 23 [(0, vr (some 4000000)), (1, vr l1), (2, vr l2), (3, vr l3), (4, vi l4)] [] h) (l1 : Option Nat) (l2 : Option Nat) (l3 : Option Nat) (l4 : Int)  (h : HP) (E : XL_law_L2310 F sl sc rc23 l1 l2 l3 l4 h = some (1, hf)) : Go K (ML_law nm) Q hf 2310 [(0, vr (some 4000000)), (1, vr l1), (2, vr l2), (3, vr l3), (4, vi l4)] [] h := by
  unfold XL_law_L2310 at E
  refine go_goto (tgt := 2868) dL_law_2310 rfl ?_
  exact SXL_law_L2868 sl sc Q nm hSc hEnd _ hrc23 _ _ _ _  _ E
noncomputable def XL_law_L2258 (F : Nat) (sl : Nat) (sc : Nat → Int) (rc23 : Option Nat → Option Nat → Option Nat → Int → HP → Option (Int × HP)) (l1 : Option Nat) (l2 : Option Nat) (l3 : Option Nat) (l4 : Int)  (h : HP) : Option (Int × HP) :=
  (xsc sl sc (w32 (l4 + 1))).bind fun v1 =>
  xb (XL_cost F l1 v1 l3 h) fun v2 h3 =>
  (xsc sl sc (w32 (l4 + 1))).bind fun v4 =>
  (xrc h3 l2 12 31).bind fun a7 =>
  xb (X12_cost F a7 v4 h3) fun v5 h6 =>
  (xrc h6 l2 12 31).bind fun a10 =>
  xb (X12_thrown F a10 h6) fun v8 h9 =>
  if v8 = v2 then
    if v2 = 0 then
      (xaJ h9 l3 0).bind fun v13 =>
      if (xcmp v13 v5) = 0 then
        XL_law_L2310 F sl sc rc23 l1 l2 l3 l4 h9
      else
        some (0, h9)
    else
      XL_law_L2310 F sl sc rc23 l1 l2 l3 l4 h9
  else
    some (0, h9)
set_option maxRecDepth 100000 in
theorem SXL_law_L2258 {K : Ctx} {F : Nat} {hf : HP} (sl : Nat) (sc : Nat → Int) (Q : State → Prop) (nm : String) (hSc : ScK K sl sc) (hEnd : ∀ (pc : Nat) (lv : List (Nat × AV)), decode cL_law pc = .ok (.ireturn, 1) → Go K (ML_law nm) Q hf pc lv [vi 1] hf) (rc23 : Option Nat → Option Nat → Option Nat → Int → HP → Option (Int × HP)) (hrc23 : ∀ l1 l2 l3 l4 h, rc23 l1 l2 l3 l4 h = some (1, hf) → Go K (ML_law nm) Q hf 23 [(0, vr (some 4000000)), (1, vr l1), (2, vr l2), (3, vr l3), (4, vi l4)] [] h) (l1 : Option Nat) (l2 : Option Nat) (l3 : Option Nat) (l4 : Int)  (h : HP) (E : XL_law_L2258 F sl sc rc23 l1 l2 l3 l4 h = some (1, hf)) : Go K (ML_law nm) Q hf 2258 [(0, vr (some 4000000)), (1, vr l1), (2, vr l2), (3, vr l3), (4, vi l4)] [] h := by
  unfold XL_law_L2258 at E
  refine go_aload_n (j := 1) (n := 2259) rfl rfl dL_law_2258 rfl ?_
  refine go_aload_n (j := 0) (n := 2260) rfl rfl dL_law_2259 rfl ?_
  refine go_iload (j := 4) (n := 2262) rfl dL_law_2260 rfl ?_
  refine go_iconst (z := 1) (n := 2263) ⟨by decide, by decide⟩ dL_law_2262 rfl ?_
  refine go_iadd (n := 2264) dL_law_2263 rfl ?_
  replace E := Option.bind_eq_some_iff.mp E; obtain ⟨v1, ev1, E⟩ := E
  refine go_sld (n := 2265) hSc ev1 dL_law_2264 rfl ?_
  refine go_aload_n (j := 3) (n := 2266) rfl rfl dL_law_2265 rfl ?_
  replace E := xb_some E; obtain ⟨v2, h3, ev2, E⟩ := E
  refine go_callSW (y := yL_cost) (n := 2269) (st := []) (as := [vr l1, vi v1, vr l3]) (stk9 := [vi v2]) (OXL_cost ev2) yw_L_cost wml_RL_252 wst_L_cost (Nat.le_of_ble_eq_true rfl) rfl ⟨Nat.le_of_ble_eq_true rfl, Nat.le_of_ble_eq_true rfl⟩ (Nat.le_of_ble_eq_true rfl) dL_law_2266 rfl rfl rfl ?_
  refine go_istore (n := 2271) (lv' := [(5, vi v2), (0, vr (some 4000000)), (1, vr l1), (2, vr l2), (3, vr l3), (4, vi l4)]) dL_law_2269 rfl (Nat.le_of_ble_eq_true rfl) rfl ?_
  refine go_aload_n (j := 3) (n := 2272) rfl rfl dL_law_2271 rfl ?_
  refine go_aload_n (j := 1) (n := 2273) rfl rfl dL_law_2272 rfl ?_
  refine go_iload (j := 5) (n := 2275) rfl dL_law_2273 rfl ?_
  refine go_iconst (z := 1) (n := 2276) ⟨by decide, by decide⟩ dL_law_2275 rfl ?_
  refine go_iadd (n := 2277) dL_law_2276 rfl ?_
  replace E := Option.bind_eq_some_iff.mp E; obtain ⟨v4, ev4, E⟩ := E
  refine go_sld (n := 2278) hSc ev4 dL_law_2277 rfl ?_
  replace E := Option.bind_eq_some_iff.mp E; obtain ⟨a7, ea7, E⟩ := E
  obtain ⟨fa7, ga7⟩ := xrc_some ea7
  replace E := xb_some E; obtain ⟨v5, h6, ev5, E⟩ := E
  refine go_callV (y := yX12_cost) (n := 2281) (st := []) (as := [vi v4]) (stk9 := [vl v5]) (OX12_cost ev5) yw_X12_cost ci_12 ga7 wml_RL_254 wim_X12_cost wse_X12_cost (Nat.le_of_ble_eq_true rfl) rfl ⟨Nat.le_of_ble_eq_true rfl, Nat.le_of_ble_eq_true rfl⟩ (Nat.le_of_ble_eq_true rfl) dL_law_2278 rfl (by cases fa7; rfl) rfl ?_
  refine go_lstore (n := 2283) (lv' := [(6, vl v5), (5, vi v2), (0, vr (some 4000000)), (1, vr l1), (2, vr l2), (3, vr l3), (4, vi l4)]) dL_law_2281 rfl (Nat.le_of_ble_eq_true rfl) rfl ?_
  refine go_aload_n (j := 4) (n := 2284) rfl rfl dL_law_2283 rfl ?_
  replace E := Option.bind_eq_some_iff.mp E; obtain ⟨a10, ea10, E⟩ := E
  obtain ⟨fa10, ga10⟩ := xrc_some ea10
  replace E := xb_some E; obtain ⟨v8, h9, ev8, E⟩ := E
  refine go_callV (y := yX12_thrown) (n := 2287) (st := []) (as := []) (stk9 := [vi v8]) (OX12_thrown ev8) yw_X12_thrown ci_12 ga10 wml_RL_146 wim_X12_thrown wse_X12_thrown (Nat.le_of_ble_eq_true rfl) rfl ⟨Nat.le_of_ble_eq_true rfl, Nat.le_of_ble_eq_true rfl⟩ (Nat.le_of_ble_eq_true rfl) dL_law_2284 rfl (by cases fa10; rfl) rfl ?_
  refine go_iload (j := 1) (n := 2289) rfl dL_law_2287 rfl ?_
  refine go_icmp_eq (tgt := 2294) (n := 2292) dL_law_2289 rfl rfl (fun c11 => ?_) (fun c11 => ?_)
  · rw [if_pos c11] at E
    refine go_iload (j := 1) (n := 2296) rfl dL_law_2294 rfl ?_
    refine go_if_ne (tgt := 2310) (n := 2299) dL_law_2296 rfl rfl (fun c12 => ?_) (fun c12 => ?_)
    · rw [if_neg c12] at E
      refine go_pick (lv' := [(0, vr (some 4000000)), (1, vr l1), (2, vr l2), (3, vr l3), (4, vi l4)]) [2, 3, 4, 5, 6] rfl ?_
      exact SXL_law_L2310 sl sc Q nm hSc hEnd _ hrc23 _ _ _ _  _ E
    · rw [if_pos c12] at E
      refine go_aload_n (j := 5) (n := 2300) rfl rfl dL_law_2299 rfl ?_
      refine go_iconst (z := 0) (n := 2301) ⟨by decide, by decide⟩ dL_law_2300 rfl ?_
      replace E := Option.bind_eq_some_iff.mp E; obtain ⟨v13, ev13, E⟩ := E
      refine go_laload (n := 2302) ev13 dL_law_2301 rfl ?_
      refine go_lload (j := 0) (n := 2304) rfl dL_law_2302 rfl ?_
      refine go_lcmp (n := 2305) dL_law_2304 rfl ?_
      refine go_if_eq (tgt := 2310) (n := 2308) dL_law_2305 rfl rfl (fun c14 => ?_) (fun c14 => ?_)
      · rw [if_pos c14] at E
        refine go_pick (lv' := [(0, vr (some 4000000)), (1, vr l1), (2, vr l2), (3, vr l3), (4, vi l4)]) [2, 3, 4, 5, 6] rfl ?_
        exact SXL_law_L2310 sl sc Q nm hSc hEnd _ hrc23 _ _ _ _  _ E
      · rw [if_neg c14] at E
        refine go_iconst (z := 0) (n := 2309) ⟨by decide, by decide⟩ dL_law_2308 rfl ?_
        exact absurd (Prod.mk.inj (Option.some.inj E)).1 (by decide)
  · rw [if_neg c11] at E
    refine go_iconst (z := 0) (n := 2293) ⟨by decide, by decide⟩ dL_law_2292 rfl ?_
    exact absurd (Prod.mk.inj (Option.some.inj E)).1 (by decide)
noncomputable def XL_law_L2378 (F : Nat) (sl : Nat) (sc : Nat → Int) (rc23 : Option Nat → Option Nat → Option Nat → Int → HP → Option (Int × HP)) (l1 : Option Nat) (l2 : Option Nat) (l3 : Option Nat) (l4 : Int)  (h : HP) : Option (Int × HP) :=
  XL_law_L2868 F sl sc rc23 l1 l2 l3 l4 h
set_option maxRecDepth 100000 in
theorem SXL_law_L2378 {K : Ctx} {F : Nat} {hf : HP} (sl : Nat) (sc : Nat → Int) (Q : State → Prop) (nm : String) (hSc : ScK K sl sc) (hEnd : ∀ (pc : Nat) (lv : List (Nat × AV)), decode cL_law pc = .ok (.ireturn, 1) → Go K (ML_law nm) Q hf pc lv [vi 1] hf) (rc23 : Option Nat → Option Nat → Option Nat → Int → HP → Option (Int × HP)) (hrc23 : ∀ l1 l2 l3 l4 h, rc23 l1 l2 l3 l4 h = some (1, hf) → Go K (ML_law nm) Q hf 23 [(0, vr (some 4000000)), (1, vr l1), (2, vr l2), (3, vr l3), (4, vi l4)] [] h) (l1 : Option Nat) (l2 : Option Nat) (l3 : Option Nat) (l4 : Int)  (h : HP) (E : XL_law_L2378 F sl sc rc23 l1 l2 l3 l4 h = some (1, hf)) : Go K (ML_law nm) Q hf 2378 [(0, vr (some 4000000)), (1, vr l1), (2, vr l2), (3, vr l3), (4, vi l4)] [] h := by
  unfold XL_law_L2378 at E
  refine go_goto (tgt := 2868) dL_law_2378 rfl ?_
  exact SXL_law_L2868 sl sc Q nm hSc hEnd _ hrc23 _ _ _ _  _ E
noncomputable def XL_law_L2313 (F : Nat) (sl : Nat) (sc : Nat → Int) (rc23 : Option Nat → Option Nat → Option Nat → Int → HP → Option (Int × HP)) (l1 : Option Nat) (l2 : Option Nat) (l3 : Option Nat) (l4 : Int)  (h : HP) : Option (Int × HP) :=
  (xsc sl sc (w32 (l4 + 1))).bind fun v1 =>
  (xsc sl sc (w32 (l4 + 2))).bind fun v2 =>
  xb (XL_worker F l1 v1 v2 l3 h) fun v3 h4 =>
  (xsc sl sc (w32 (l4 + 1))).bind fun v5 =>
  (xsc sl sc (w32 (l4 + 2))).bind fun v6 =>
  (xrc h4 l2 12 31).bind fun a9 =>
  xb (X12_worker F a9 v5 v6 h4) fun v7 h8 =>
  (xrc h8 l2 12 31).bind fun a12 =>
  xb (X12_thrown F a12 h8) fun v10 h11 =>
  if v10 = v3 then
    if v3 = 0 then
      (xaJ h11 l3 0).bind fun v15 =>
      if (xcmp v15 v7) = 0 then
        XL_law_L2378 F sl sc rc23 l1 l2 l3 l4 h11
      else
        some (0, h11)
    else
      XL_law_L2378 F sl sc rc23 l1 l2 l3 l4 h11
  else
    some (0, h11)
set_option maxRecDepth 100000 in
theorem SXL_law_L2313 {K : Ctx} {F : Nat} {hf : HP} (sl : Nat) (sc : Nat → Int) (Q : State → Prop) (nm : String) (hSc : ScK K sl sc) (hEnd : ∀ (pc : Nat) (lv : List (Nat × AV)), decode cL_law pc = .ok (.ireturn, 1) → Go K (ML_law nm) Q hf pc lv [vi 1] hf) (rc23 : Option Nat → Option Nat → Option Nat → Int → HP → Option (Int × HP)) (hrc23 : ∀ l1 l2 l3 l4 h, rc23 l1 l2 l3 l4 h = some (1, hf) → Go K (ML_law nm) Q hf 23 [(0, vr (some 4000000)), (1, vr l1), (2, vr l2), (3, vr l3), (4, vi l4)] [] h) (l1 : Option Nat) (l2 : Option Nat) (l3 : Option Nat) (l4 : Int)  (h : HP) (E : XL_law_L2313 F sl sc rc23 l1 l2 l3 l4 h = some (1, hf)) : Go K (ML_law nm) Q hf 2313 [(0, vr (some 4000000)), (1, vr l1), (2, vr l2), (3, vr l3), (4, vi l4)] [] h := by
  unfold XL_law_L2313 at E
  refine go_aload_n (j := 1) (n := 2314) rfl rfl dL_law_2313 rfl ?_
  refine go_aload_n (j := 0) (n := 2315) rfl rfl dL_law_2314 rfl ?_
  refine go_iload (j := 4) (n := 2317) rfl dL_law_2315 rfl ?_
  refine go_iconst (z := 1) (n := 2318) ⟨by decide, by decide⟩ dL_law_2317 rfl ?_
  refine go_iadd (n := 2319) dL_law_2318 rfl ?_
  replace E := Option.bind_eq_some_iff.mp E; obtain ⟨v1, ev1, E⟩ := E
  refine go_sld (n := 2320) hSc ev1 dL_law_2319 rfl ?_
  refine go_aload_n (j := 0) (n := 2321) rfl rfl dL_law_2320 rfl ?_
  refine go_iload (j := 4) (n := 2323) rfl dL_law_2321 rfl ?_
  refine go_iconst (z := 2) (n := 2324) ⟨by decide, by decide⟩ dL_law_2323 rfl ?_
  refine go_iadd (n := 2325) dL_law_2324 rfl ?_
  replace E := Option.bind_eq_some_iff.mp E; obtain ⟨v2, ev2, E⟩ := E
  refine go_sld (n := 2326) hSc ev2 dL_law_2325 rfl ?_
  refine go_aload_n (j := 3) (n := 2327) rfl rfl dL_law_2326 rfl ?_
  replace E := xb_some E; obtain ⟨v3, h4, ev3, E⟩ := E
  refine go_callSW (y := yL_worker) (n := 2330) (st := []) (as := [vr l1, vi v1, vi v2, vr l3]) (stk9 := [vi v3]) (OXL_worker ev3) yw_L_worker wml_RL_255 wst_L_worker (Nat.le_of_ble_eq_true rfl) rfl ⟨Nat.le_of_ble_eq_true rfl, Nat.le_of_ble_eq_true rfl⟩ (Nat.le_of_ble_eq_true rfl) dL_law_2327 rfl rfl rfl ?_
  refine go_istore (n := 2332) (lv' := [(5, vi v3), (0, vr (some 4000000)), (1, vr l1), (2, vr l2), (3, vr l3), (4, vi l4)]) dL_law_2330 rfl (Nat.le_of_ble_eq_true rfl) rfl ?_
  refine go_aload_n (j := 3) (n := 2333) rfl rfl dL_law_2332 rfl ?_
  refine go_aload_n (j := 1) (n := 2334) rfl rfl dL_law_2333 rfl ?_
  refine go_iload (j := 5) (n := 2336) rfl dL_law_2334 rfl ?_
  refine go_iconst (z := 1) (n := 2337) ⟨by decide, by decide⟩ dL_law_2336 rfl ?_
  refine go_iadd (n := 2338) dL_law_2337 rfl ?_
  replace E := Option.bind_eq_some_iff.mp E; obtain ⟨v5, ev5, E⟩ := E
  refine go_sld (n := 2339) hSc ev5 dL_law_2338 rfl ?_
  refine go_aload_n (j := 1) (n := 2340) rfl rfl dL_law_2339 rfl ?_
  refine go_iload (j := 5) (n := 2342) rfl dL_law_2340 rfl ?_
  refine go_iconst (z := 2) (n := 2343) ⟨by decide, by decide⟩ dL_law_2342 rfl ?_
  refine go_iadd (n := 2344) dL_law_2343 rfl ?_
  replace E := Option.bind_eq_some_iff.mp E; obtain ⟨v6, ev6, E⟩ := E
  refine go_sld (n := 2345) hSc ev6 dL_law_2344 rfl ?_
  replace E := Option.bind_eq_some_iff.mp E; obtain ⟨a9, ea9, E⟩ := E
  obtain ⟨fa9, ga9⟩ := xrc_some ea9
  replace E := xb_some E; obtain ⟨v7, h8, ev7, E⟩ := E
  refine go_callV (y := yX12_worker) (n := 2348) (st := []) (as := [vi v5, vi v6]) (stk9 := [vi v7]) (OX12_worker ev7) yw_X12_worker ci_12 ga9 wml_RL_257 wim_X12_worker wse_X12_worker (Nat.le_of_ble_eq_true rfl) rfl ⟨Nat.le_of_ble_eq_true rfl, Nat.le_of_ble_eq_true rfl⟩ (Nat.le_of_ble_eq_true rfl) dL_law_2345 rfl (by cases fa9; rfl) rfl ?_
  refine go_istore (n := 2350) (lv' := [(6, vi v7), (5, vi v3), (0, vr (some 4000000)), (1, vr l1), (2, vr l2), (3, vr l3), (4, vi l4)]) dL_law_2348 rfl (Nat.le_of_ble_eq_true rfl) rfl ?_
  refine go_aload_n (j := 4) (n := 2351) rfl rfl dL_law_2350 rfl ?_
  replace E := Option.bind_eq_some_iff.mp E; obtain ⟨a12, ea12, E⟩ := E
  obtain ⟨fa12, ga12⟩ := xrc_some ea12
  replace E := xb_some E; obtain ⟨v10, h11, ev10, E⟩ := E
  refine go_callV (y := yX12_thrown) (n := 2354) (st := []) (as := []) (stk9 := [vi v10]) (OX12_thrown ev10) yw_X12_thrown ci_12 ga12 wml_RL_146 wim_X12_thrown wse_X12_thrown (Nat.le_of_ble_eq_true rfl) rfl ⟨Nat.le_of_ble_eq_true rfl, Nat.le_of_ble_eq_true rfl⟩ (Nat.le_of_ble_eq_true rfl) dL_law_2351 rfl (by cases fa12; rfl) rfl ?_
  refine go_iload (j := 1) (n := 2356) rfl dL_law_2354 rfl ?_
  refine go_icmp_eq (tgt := 2361) (n := 2359) dL_law_2356 rfl rfl (fun c13 => ?_) (fun c13 => ?_)
  · rw [if_pos c13] at E
    refine go_iload (j := 1) (n := 2363) rfl dL_law_2361 rfl ?_
    refine go_if_ne (tgt := 2378) (n := 2366) dL_law_2363 rfl rfl (fun c14 => ?_) (fun c14 => ?_)
    · rw [if_neg c14] at E
      refine go_pick (lv' := [(0, vr (some 4000000)), (1, vr l1), (2, vr l2), (3, vr l3), (4, vi l4)]) [2, 3, 4, 5, 6] rfl ?_
      exact SXL_law_L2378 sl sc Q nm hSc hEnd _ hrc23 _ _ _ _  _ E
    · rw [if_pos c14] at E
      refine go_aload_n (j := 5) (n := 2367) rfl rfl dL_law_2366 rfl ?_
      refine go_iconst (z := 0) (n := 2368) ⟨by decide, by decide⟩ dL_law_2367 rfl ?_
      replace E := Option.bind_eq_some_iff.mp E; obtain ⟨v15, ev15, E⟩ := E
      refine go_laload (n := 2369) ev15 dL_law_2368 rfl ?_
      refine go_iload (j := 0) (n := 2371) rfl dL_law_2369 rfl ?_
      refine go_i2l (n := 2372) dL_law_2371 rfl ?_
      refine go_lcmp (n := 2373) dL_law_2372 rfl ?_
      refine go_if_eq (tgt := 2378) (n := 2376) dL_law_2373 rfl rfl (fun c16 => ?_) (fun c16 => ?_)
      · rw [if_pos c16] at E
        refine go_pick (lv' := [(0, vr (some 4000000)), (1, vr l1), (2, vr l2), (3, vr l3), (4, vi l4)]) [2, 3, 4, 5, 6] rfl ?_
        exact SXL_law_L2378 sl sc Q nm hSc hEnd _ hrc23 _ _ _ _  _ E
      · rw [if_neg c16] at E
        refine go_iconst (z := 0) (n := 2377) ⟨by decide, by decide⟩ dL_law_2376 rfl ?_
        exact absurd (Prod.mk.inj (Option.some.inj E)).1 (by decide)
  · rw [if_neg c13] at E
    refine go_iconst (z := 0) (n := 2360) ⟨by decide, by decide⟩ dL_law_2359 rfl ?_
    exact absurd (Prod.mk.inj (Option.some.inj E)).1 (by decide)
noncomputable def XL_law_L2465 (F : Nat) (sl : Nat) (sc : Nat → Int) (rc23 : Option Nat → Option Nat → Option Nat → Int → HP → Option (Int × HP)) (l1 : Option Nat) (l2 : Option Nat) (l3 : Option Nat) (l4 : Int)  (h : HP) : Option (Int × HP) :=
  XL_law_L2868 F sl sc rc23 l1 l2 l3 l4 h
set_option maxRecDepth 100000 in
theorem SXL_law_L2465 {K : Ctx} {F : Nat} {hf : HP} (sl : Nat) (sc : Nat → Int) (Q : State → Prop) (nm : String) (hSc : ScK K sl sc) (hEnd : ∀ (pc : Nat) (lv : List (Nat × AV)), decode cL_law pc = .ok (.ireturn, 1) → Go K (ML_law nm) Q hf pc lv [vi 1] hf) (rc23 : Option Nat → Option Nat → Option Nat → Int → HP → Option (Int × HP)) (hrc23 : ∀ l1 l2 l3 l4 h, rc23 l1 l2 l3 l4 h = some (1, hf) → Go K (ML_law nm) Q hf 23 [(0, vr (some 4000000)), (1, vr l1), (2, vr l2), (3, vr l3), (4, vi l4)] [] h) (l1 : Option Nat) (l2 : Option Nat) (l3 : Option Nat) (l4 : Int)  (h : HP) (E : XL_law_L2465 F sl sc rc23 l1 l2 l3 l4 h = some (1, hf)) : Go K (ML_law nm) Q hf 2465 [(0, vr (some 4000000)), (1, vr l1), (2, vr l2), (3, vr l3), (4, vi l4)] [] h := by
  unfold XL_law_L2465 at E
  refine go_goto (tgt := 2868) dL_law_2465 rfl ?_
  exact SXL_law_L2868 sl sc Q nm hSc hEnd _ hrc23 _ _ _ _  _ E
noncomputable def XL_law_L2459 (F : Nat) (sl : Nat) (sc : Nat → Int) (rc23 : Option Nat → Option Nat → Option Nat → Int → HP → Option (Int × HP)) (l1 : Option Nat) (l2 : Option Nat) (l3 : Option Nat) (l4 : Int) (s0 : Int) (s1 : Int) (h : HP) : Option (Int × HP) :=
  if (xcmp s1 s0) = 0 then
    XL_law_L2465 F sl sc rc23 l1 l2 l3 l4 h
  else
    some (0, h)
set_option maxRecDepth 100000 in
theorem SXL_law_L2459 {K : Ctx} {F : Nat} {hf : HP} (sl : Nat) (sc : Nat → Int) (Q : State → Prop) (nm : String) (hSc : ScK K sl sc) (hEnd : ∀ (pc : Nat) (lv : List (Nat × AV)), decode cL_law pc = .ok (.ireturn, 1) → Go K (ML_law nm) Q hf pc lv [vi 1] hf) (rc23 : Option Nat → Option Nat → Option Nat → Int → HP → Option (Int × HP)) (hrc23 : ∀ l1 l2 l3 l4 h, rc23 l1 l2 l3 l4 h = some (1, hf) → Go K (ML_law nm) Q hf 23 [(0, vr (some 4000000)), (1, vr l1), (2, vr l2), (3, vr l3), (4, vi l4)] [] h) (l1 : Option Nat) (l2 : Option Nat) (l3 : Option Nat) (l4 : Int) (s0 : Int) (s1 : Int) (h : HP) (E : XL_law_L2459 F sl sc rc23 l1 l2 l3 l4 s0 s1 h = some (1, hf)) : Go K (ML_law nm) Q hf 2459 [(0, vr (some 4000000)), (1, vr l1), (2, vr l2), (3, vr l3), (4, vi l4)] [vl s0, vl s1] h := by
  unfold XL_law_L2459 at E
  refine go_lcmp (n := 2460) dL_law_2459 rfl ?_
  refine go_if_eq (tgt := 2465) (n := 2463) dL_law_2460 rfl rfl (fun c1 => ?_) (fun c1 => ?_)
  · rw [if_pos c1] at E
    exact SXL_law_L2465 sl sc Q nm hSc hEnd _ hrc23 _ _ _ _  _ E
  · rw [if_neg c1] at E
    refine go_iconst (z := 0) (n := 2464) ⟨by decide, by decide⟩ dL_law_2463 rfl ?_
    exact absurd (Prod.mk.inj (Option.some.inj E)).1 (by decide)
noncomputable def XL_law_L2381 (F : Nat) (sl : Nat) (sc : Nat → Int) (rc23 : Option Nat → Option Nat → Option Nat → Int → HP → Option (Int × HP)) (l1 : Option Nat) (l2 : Option Nat) (l3 : Option Nat) (l4 : Int)  (h : HP) : Option (Int × HP) :=
  (xsc sl sc (w32 (l4 + 1))).bind fun v1 =>
  (xsc sl sc (w32 (l4 + 2))).bind fun v2 =>
  (xsc sl sc (w32 (l4 + 3))).bind fun v3 =>
  xb (XL_alter F l1 v1 v2 v3 l3 h) fun v4 h5 =>
  (xsc sl sc (w32 (l4 + 1))).bind fun v6 =>
  (xsc sl sc (w32 (l4 + 2))).bind fun v7 =>
  (xsc sl sc (w32 (l4 + 3))).bind fun v8 =>
  (xrc h5 l2 12 31).bind fun a11 =>
  xb (X12_alter F a11 v6 v7 v8 h5) fun v9 h10 =>
  (xrc h10 l2 12 31).bind fun a14 =>
  xb (X12_thrown F a14 h10) fun v12 h13 =>
  if v12 = v4 then
    if v4 = 0 then
      (xaJ h13 l3 0).bind fun v17 =>
      XL_law_L2459 F sl sc rc23 l1 l2 l3 l4 (if v9 = 0 then 0 else 1) v17 h13
    else
      XL_law_L2465 F sl sc rc23 l1 l2 l3 l4 h13
  else
    some (0, h13)
set_option maxRecDepth 100000 in
theorem SXL_law_L2381 {K : Ctx} {F : Nat} {hf : HP} (sl : Nat) (sc : Nat → Int) (Q : State → Prop) (nm : String) (hSc : ScK K sl sc) (hEnd : ∀ (pc : Nat) (lv : List (Nat × AV)), decode cL_law pc = .ok (.ireturn, 1) → Go K (ML_law nm) Q hf pc lv [vi 1] hf) (rc23 : Option Nat → Option Nat → Option Nat → Int → HP → Option (Int × HP)) (hrc23 : ∀ l1 l2 l3 l4 h, rc23 l1 l2 l3 l4 h = some (1, hf) → Go K (ML_law nm) Q hf 23 [(0, vr (some 4000000)), (1, vr l1), (2, vr l2), (3, vr l3), (4, vi l4)] [] h) (l1 : Option Nat) (l2 : Option Nat) (l3 : Option Nat) (l4 : Int)  (h : HP) (E : XL_law_L2381 F sl sc rc23 l1 l2 l3 l4 h = some (1, hf)) : Go K (ML_law nm) Q hf 2381 [(0, vr (some 4000000)), (1, vr l1), (2, vr l2), (3, vr l3), (4, vi l4)] [] h := by
  unfold XL_law_L2381 at E
  refine go_aload_n (j := 1) (n := 2382) rfl rfl dL_law_2381 rfl ?_
  refine go_aload_n (j := 0) (n := 2383) rfl rfl dL_law_2382 rfl ?_
  refine go_iload (j := 4) (n := 2385) rfl dL_law_2383 rfl ?_
  refine go_iconst (z := 1) (n := 2386) ⟨by decide, by decide⟩ dL_law_2385 rfl ?_
  refine go_iadd (n := 2387) dL_law_2386 rfl ?_
  replace E := Option.bind_eq_some_iff.mp E; obtain ⟨v1, ev1, E⟩ := E
  refine go_sld (n := 2388) hSc ev1 dL_law_2387 rfl ?_
  refine go_aload_n (j := 0) (n := 2389) rfl rfl dL_law_2388 rfl ?_
  refine go_iload (j := 4) (n := 2391) rfl dL_law_2389 rfl ?_
  refine go_iconst (z := 2) (n := 2392) ⟨by decide, by decide⟩ dL_law_2391 rfl ?_
  refine go_iadd (n := 2393) dL_law_2392 rfl ?_
  replace E := Option.bind_eq_some_iff.mp E; obtain ⟨v2, ev2, E⟩ := E
  refine go_sld (n := 2394) hSc ev2 dL_law_2393 rfl ?_
  refine go_aload_n (j := 0) (n := 2395) rfl rfl dL_law_2394 rfl ?_
  refine go_iload (j := 4) (n := 2397) rfl dL_law_2395 rfl ?_
  refine go_iconst (z := 3) (n := 2398) ⟨by decide, by decide⟩ dL_law_2397 rfl ?_
  refine go_iadd (n := 2399) dL_law_2398 rfl ?_
  replace E := Option.bind_eq_some_iff.mp E; obtain ⟨v3, ev3, E⟩ := E
  refine go_sld (n := 2400) hSc ev3 dL_law_2399 rfl ?_
  refine go_aload_n (j := 3) (n := 2401) rfl rfl dL_law_2400 rfl ?_
  replace E := xb_some E; obtain ⟨v4, h5, ev4, E⟩ := E
  refine go_callSW (y := yL_alter) (n := 2404) (st := []) (as := [vr l1, vi v1, vi v2, vi v3, vr l3]) (stk9 := [vi v4]) (OXL_alter ev4) yw_L_alter wml_RL_258 wst_L_alter (Nat.le_of_ble_eq_true rfl) rfl ⟨Nat.le_of_ble_eq_true rfl, Nat.le_of_ble_eq_true rfl⟩ (Nat.le_of_ble_eq_true rfl) dL_law_2401 rfl rfl rfl ?_
  refine go_istore (n := 2406) (lv' := [(5, vi v4), (0, vr (some 4000000)), (1, vr l1), (2, vr l2), (3, vr l3), (4, vi l4)]) dL_law_2404 rfl (Nat.le_of_ble_eq_true rfl) rfl ?_
  refine go_aload_n (j := 3) (n := 2407) rfl rfl dL_law_2406 rfl ?_
  refine go_aload_n (j := 1) (n := 2408) rfl rfl dL_law_2407 rfl ?_
  refine go_iload (j := 5) (n := 2410) rfl dL_law_2408 rfl ?_
  refine go_iconst (z := 1) (n := 2411) ⟨by decide, by decide⟩ dL_law_2410 rfl ?_
  refine go_iadd (n := 2412) dL_law_2411 rfl ?_
  replace E := Option.bind_eq_some_iff.mp E; obtain ⟨v6, ev6, E⟩ := E
  refine go_sld (n := 2413) hSc ev6 dL_law_2412 rfl ?_
  refine go_aload_n (j := 1) (n := 2414) rfl rfl dL_law_2413 rfl ?_
  refine go_iload (j := 5) (n := 2416) rfl dL_law_2414 rfl ?_
  refine go_iconst (z := 2) (n := 2417) ⟨by decide, by decide⟩ dL_law_2416 rfl ?_
  refine go_iadd (n := 2418) dL_law_2417 rfl ?_
  replace E := Option.bind_eq_some_iff.mp E; obtain ⟨v7, ev7, E⟩ := E
  refine go_sld (n := 2419) hSc ev7 dL_law_2418 rfl ?_
  refine go_aload_n (j := 1) (n := 2420) rfl rfl dL_law_2419 rfl ?_
  refine go_iload (j := 5) (n := 2422) rfl dL_law_2420 rfl ?_
  refine go_iconst (z := 3) (n := 2423) ⟨by decide, by decide⟩ dL_law_2422 rfl ?_
  refine go_iadd (n := 2424) dL_law_2423 rfl ?_
  replace E := Option.bind_eq_some_iff.mp E; obtain ⟨v8, ev8, E⟩ := E
  refine go_sld (n := 2425) hSc ev8 dL_law_2424 rfl ?_
  replace E := Option.bind_eq_some_iff.mp E; obtain ⟨a11, ea11, E⟩ := E
  obtain ⟨fa11, ga11⟩ := xrc_some ea11
  replace E := xb_some E; obtain ⟨v9, h10, ev9, E⟩ := E
  refine go_callV (y := yX12_alter) (n := 2428) (st := []) (as := [vi v6, vi v7, vi v8]) (stk9 := [vi v9]) (OX12_alter ev9) yw_X12_alter ci_12 ga11 wml_RL_260 wim_X12_alter wse_X12_alter (Nat.le_of_ble_eq_true rfl) rfl ⟨Nat.le_of_ble_eq_true rfl, Nat.le_of_ble_eq_true rfl⟩ (Nat.le_of_ble_eq_true rfl) dL_law_2425 rfl (by cases fa11; rfl) rfl ?_
  refine go_istore (n := 2430) (lv' := [(6, vi v9), (5, vi v4), (0, vr (some 4000000)), (1, vr l1), (2, vr l2), (3, vr l3), (4, vi l4)]) dL_law_2428 rfl (Nat.le_of_ble_eq_true rfl) rfl ?_
  refine go_aload_n (j := 4) (n := 2431) rfl rfl dL_law_2430 rfl ?_
  replace E := Option.bind_eq_some_iff.mp E; obtain ⟨a14, ea14, E⟩ := E
  obtain ⟨fa14, ga14⟩ := xrc_some ea14
  replace E := xb_some E; obtain ⟨v12, h13, ev12, E⟩ := E
  refine go_callV (y := yX12_thrown) (n := 2434) (st := []) (as := []) (stk9 := [vi v12]) (OX12_thrown ev12) yw_X12_thrown ci_12 ga14 wml_RL_146 wim_X12_thrown wse_X12_thrown (Nat.le_of_ble_eq_true rfl) rfl ⟨Nat.le_of_ble_eq_true rfl, Nat.le_of_ble_eq_true rfl⟩ (Nat.le_of_ble_eq_true rfl) dL_law_2431 rfl (by cases fa14; rfl) rfl ?_
  refine go_iload (j := 1) (n := 2436) rfl dL_law_2434 rfl ?_
  refine go_icmp_eq (tgt := 2441) (n := 2439) dL_law_2436 rfl rfl (fun c15 => ?_) (fun c15 => ?_)
  · rw [if_pos c15] at E
    refine go_iload (j := 1) (n := 2443) rfl dL_law_2441 rfl ?_
    refine go_if_ne (tgt := 2465) (n := 2446) dL_law_2443 rfl rfl (fun c16 => ?_) (fun c16 => ?_)
    · rw [if_neg c16] at E
      refine go_pick (lv' := [(0, vr (some 4000000)), (1, vr l1), (2, vr l2), (3, vr l3), (4, vi l4)]) [2, 3, 4, 5, 6] rfl ?_
      exact SXL_law_L2465 sl sc Q nm hSc hEnd _ hrc23 _ _ _ _  _ E
    · rw [if_pos c16] at E
      refine go_aload_n (j := 5) (n := 2447) rfl rfl dL_law_2446 rfl ?_
      refine go_iconst (z := 0) (n := 2448) ⟨by decide, by decide⟩ dL_law_2447 rfl ?_
      replace E := Option.bind_eq_some_iff.mp E; obtain ⟨v17, ev17, E⟩ := E
      refine go_laload (n := 2449) ev17 dL_law_2448 rfl ?_
      refine go_iload (j := 0) (n := 2451) rfl dL_law_2449 rfl ?_
      refine go_if_eq (tgt := 2458) (n := 2454) dL_law_2451 rfl rfl (fun c18 => ?_) (fun c18 => ?_)
      · simp only [if_pos c18] at E
        refine go_lconst (w := 0) (n := 2459) rfl dL_law_2458 rfl ?_
        refine go_pick (lv' := [(0, vr (some 4000000)), (1, vr l1), (2, vr l2), (3, vr l3), (4, vi l4)]) [2, 3, 4, 5, 6] rfl ?_
        exact SXL_law_L2459 sl sc Q nm hSc hEnd _ hrc23 _ _ _ _ _ _ _ E
      · simp only [if_neg c18] at E
        refine go_lconst (w := 1) (n := 2455) rfl dL_law_2454 rfl ?_
        refine go_goto (tgt := 2459) dL_law_2455 rfl ?_
        refine go_pick (lv' := [(0, vr (some 4000000)), (1, vr l1), (2, vr l2), (3, vr l3), (4, vi l4)]) [2, 3, 4, 5, 6] rfl ?_
        exact SXL_law_L2459 sl sc Q nm hSc hEnd _ hrc23 _ _ _ _ _ _ _ E
  · rw [if_neg c15] at E
    refine go_iconst (z := 0) (n := 2440) ⟨by decide, by decide⟩ dL_law_2439 rfl ?_
    exact absurd (Prod.mk.inj (Option.some.inj E)).1 (by decide)
noncomputable def XL_law_L2533 (F : Nat) (sl : Nat) (sc : Nat → Int) (rc23 : Option Nat → Option Nat → Option Nat → Int → HP → Option (Int × HP)) (l1 : Option Nat) (l2 : Option Nat) (l3 : Option Nat) (l4 : Int)  (h : HP) : Option (Int × HP) :=
  XL_law_L2868 F sl sc rc23 l1 l2 l3 l4 h
set_option maxRecDepth 100000 in
theorem SXL_law_L2533 {K : Ctx} {F : Nat} {hf : HP} (sl : Nat) (sc : Nat → Int) (Q : State → Prop) (nm : String) (hSc : ScK K sl sc) (hEnd : ∀ (pc : Nat) (lv : List (Nat × AV)), decode cL_law pc = .ok (.ireturn, 1) → Go K (ML_law nm) Q hf pc lv [vi 1] hf) (rc23 : Option Nat → Option Nat → Option Nat → Int → HP → Option (Int × HP)) (hrc23 : ∀ l1 l2 l3 l4 h, rc23 l1 l2 l3 l4 h = some (1, hf) → Go K (ML_law nm) Q hf 23 [(0, vr (some 4000000)), (1, vr l1), (2, vr l2), (3, vr l3), (4, vi l4)] [] h) (l1 : Option Nat) (l2 : Option Nat) (l3 : Option Nat) (l4 : Int)  (h : HP) (E : XL_law_L2533 F sl sc rc23 l1 l2 l3 l4 h = some (1, hf)) : Go K (ML_law nm) Q hf 2533 [(0, vr (some 4000000)), (1, vr l1), (2, vr l2), (3, vr l3), (4, vi l4)] [] h := by
  unfold XL_law_L2533 at E
  refine go_goto (tgt := 2868) dL_law_2533 rfl ?_
  exact SXL_law_L2868 sl sc Q nm hSc hEnd _ hrc23 _ _ _ _  _ E
noncomputable def XL_law_L2468 (F : Nat) (sl : Nat) (sc : Nat → Int) (rc23 : Option Nat → Option Nat → Option Nat → Int → HP → Option (Int × HP)) (l1 : Option Nat) (l2 : Option Nat) (l3 : Option Nat) (l4 : Int)  (h : HP) : Option (Int × HP) :=
  (xsc sl sc (w32 (l4 + 1))).bind fun v1 =>
  (xsc sl sc (w32 (l4 + 2))).bind fun v2 =>
  xb (XL_pay F l1 v1 v2 l3 h) fun v3 h4 =>
  (xsc sl sc (w32 (l4 + 1))).bind fun v5 =>
  (xsc sl sc (w32 (l4 + 2))).bind fun v6 =>
  (xrc h4 l2 12 31).bind fun a9 =>
  xb (X12_pay F a9 v5 v6 h4) fun v7 h8 =>
  (xrc h8 l2 12 31).bind fun a12 =>
  xb (X12_thrown F a12 h8) fun v10 h11 =>
  if v10 = v3 then
    if v3 = 0 then
      (xaJ h11 l3 0).bind fun v15 =>
      if (xcmp v15 v7) = 0 then
        XL_law_L2533 F sl sc rc23 l1 l2 l3 l4 h11
      else
        some (0, h11)
    else
      XL_law_L2533 F sl sc rc23 l1 l2 l3 l4 h11
  else
    some (0, h11)
set_option maxRecDepth 100000 in
theorem SXL_law_L2468 {K : Ctx} {F : Nat} {hf : HP} (sl : Nat) (sc : Nat → Int) (Q : State → Prop) (nm : String) (hSc : ScK K sl sc) (hEnd : ∀ (pc : Nat) (lv : List (Nat × AV)), decode cL_law pc = .ok (.ireturn, 1) → Go K (ML_law nm) Q hf pc lv [vi 1] hf) (rc23 : Option Nat → Option Nat → Option Nat → Int → HP → Option (Int × HP)) (hrc23 : ∀ l1 l2 l3 l4 h, rc23 l1 l2 l3 l4 h = some (1, hf) → Go K (ML_law nm) Q hf 23 [(0, vr (some 4000000)), (1, vr l1), (2, vr l2), (3, vr l3), (4, vi l4)] [] h) (l1 : Option Nat) (l2 : Option Nat) (l3 : Option Nat) (l4 : Int)  (h : HP) (E : XL_law_L2468 F sl sc rc23 l1 l2 l3 l4 h = some (1, hf)) : Go K (ML_law nm) Q hf 2468 [(0, vr (some 4000000)), (1, vr l1), (2, vr l2), (3, vr l3), (4, vi l4)] [] h := by
  unfold XL_law_L2468 at E
  refine go_aload_n (j := 1) (n := 2469) rfl rfl dL_law_2468 rfl ?_
  refine go_aload_n (j := 0) (n := 2470) rfl rfl dL_law_2469 rfl ?_
  refine go_iload (j := 4) (n := 2472) rfl dL_law_2470 rfl ?_
  refine go_iconst (z := 1) (n := 2473) ⟨by decide, by decide⟩ dL_law_2472 rfl ?_
  refine go_iadd (n := 2474) dL_law_2473 rfl ?_
  replace E := Option.bind_eq_some_iff.mp E; obtain ⟨v1, ev1, E⟩ := E
  refine go_sld (n := 2475) hSc ev1 dL_law_2474 rfl ?_
  refine go_aload_n (j := 0) (n := 2476) rfl rfl dL_law_2475 rfl ?_
  refine go_iload (j := 4) (n := 2478) rfl dL_law_2476 rfl ?_
  refine go_iconst (z := 2) (n := 2479) ⟨by decide, by decide⟩ dL_law_2478 rfl ?_
  refine go_iadd (n := 2480) dL_law_2479 rfl ?_
  replace E := Option.bind_eq_some_iff.mp E; obtain ⟨v2, ev2, E⟩ := E
  refine go_sld (n := 2481) hSc ev2 dL_law_2480 rfl ?_
  refine go_aload_n (j := 3) (n := 2482) rfl rfl dL_law_2481 rfl ?_
  replace E := xb_some E; obtain ⟨v3, h4, ev3, E⟩ := E
  refine go_callSW (y := yL_pay) (n := 2485) (st := []) (as := [vr l1, vi v1, vi v2, vr l3]) (stk9 := [vi v3]) (OXL_pay ev3) yw_L_pay wml_RL_261 wst_L_pay (Nat.le_of_ble_eq_true rfl) rfl ⟨Nat.le_of_ble_eq_true rfl, Nat.le_of_ble_eq_true rfl⟩ (Nat.le_of_ble_eq_true rfl) dL_law_2482 rfl rfl rfl ?_
  refine go_istore (n := 2487) (lv' := [(5, vi v3), (0, vr (some 4000000)), (1, vr l1), (2, vr l2), (3, vr l3), (4, vi l4)]) dL_law_2485 rfl (Nat.le_of_ble_eq_true rfl) rfl ?_
  refine go_aload_n (j := 3) (n := 2488) rfl rfl dL_law_2487 rfl ?_
  refine go_aload_n (j := 1) (n := 2489) rfl rfl dL_law_2488 rfl ?_
  refine go_iload (j := 5) (n := 2491) rfl dL_law_2489 rfl ?_
  refine go_iconst (z := 1) (n := 2492) ⟨by decide, by decide⟩ dL_law_2491 rfl ?_
  refine go_iadd (n := 2493) dL_law_2492 rfl ?_
  replace E := Option.bind_eq_some_iff.mp E; obtain ⟨v5, ev5, E⟩ := E
  refine go_sld (n := 2494) hSc ev5 dL_law_2493 rfl ?_
  refine go_aload_n (j := 1) (n := 2495) rfl rfl dL_law_2494 rfl ?_
  refine go_iload (j := 5) (n := 2497) rfl dL_law_2495 rfl ?_
  refine go_iconst (z := 2) (n := 2498) ⟨by decide, by decide⟩ dL_law_2497 rfl ?_
  refine go_iadd (n := 2499) dL_law_2498 rfl ?_
  replace E := Option.bind_eq_some_iff.mp E; obtain ⟨v6, ev6, E⟩ := E
  refine go_sld (n := 2500) hSc ev6 dL_law_2499 rfl ?_
  replace E := Option.bind_eq_some_iff.mp E; obtain ⟨a9, ea9, E⟩ := E
  obtain ⟨fa9, ga9⟩ := xrc_some ea9
  replace E := xb_some E; obtain ⟨v7, h8, ev7, E⟩ := E
  refine go_callV (y := yX12_pay) (n := 2503) (st := []) (as := [vi v5, vi v6]) (stk9 := [vi v7]) (OX12_pay ev7) yw_X12_pay ci_12 ga9 wml_RL_263 wim_X12_pay wse_X12_pay (Nat.le_of_ble_eq_true rfl) rfl ⟨Nat.le_of_ble_eq_true rfl, Nat.le_of_ble_eq_true rfl⟩ (Nat.le_of_ble_eq_true rfl) dL_law_2500 rfl (by cases fa9; rfl) rfl ?_
  refine go_istore (n := 2505) (lv' := [(6, vi v7), (5, vi v3), (0, vr (some 4000000)), (1, vr l1), (2, vr l2), (3, vr l3), (4, vi l4)]) dL_law_2503 rfl (Nat.le_of_ble_eq_true rfl) rfl ?_
  refine go_aload_n (j := 4) (n := 2506) rfl rfl dL_law_2505 rfl ?_
  replace E := Option.bind_eq_some_iff.mp E; obtain ⟨a12, ea12, E⟩ := E
  obtain ⟨fa12, ga12⟩ := xrc_some ea12
  replace E := xb_some E; obtain ⟨v10, h11, ev10, E⟩ := E
  refine go_callV (y := yX12_thrown) (n := 2509) (st := []) (as := []) (stk9 := [vi v10]) (OX12_thrown ev10) yw_X12_thrown ci_12 ga12 wml_RL_146 wim_X12_thrown wse_X12_thrown (Nat.le_of_ble_eq_true rfl) rfl ⟨Nat.le_of_ble_eq_true rfl, Nat.le_of_ble_eq_true rfl⟩ (Nat.le_of_ble_eq_true rfl) dL_law_2506 rfl (by cases fa12; rfl) rfl ?_
  refine go_iload (j := 1) (n := 2511) rfl dL_law_2509 rfl ?_
  refine go_icmp_eq (tgt := 2516) (n := 2514) dL_law_2511 rfl rfl (fun c13 => ?_) (fun c13 => ?_)
  · rw [if_pos c13] at E
    refine go_iload (j := 1) (n := 2518) rfl dL_law_2516 rfl ?_
    refine go_if_ne (tgt := 2533) (n := 2521) dL_law_2518 rfl rfl (fun c14 => ?_) (fun c14 => ?_)
    · rw [if_neg c14] at E
      refine go_pick (lv' := [(0, vr (some 4000000)), (1, vr l1), (2, vr l2), (3, vr l3), (4, vi l4)]) [2, 3, 4, 5, 6] rfl ?_
      exact SXL_law_L2533 sl sc Q nm hSc hEnd _ hrc23 _ _ _ _  _ E
    · rw [if_pos c14] at E
      refine go_aload_n (j := 5) (n := 2522) rfl rfl dL_law_2521 rfl ?_
      refine go_iconst (z := 0) (n := 2523) ⟨by decide, by decide⟩ dL_law_2522 rfl ?_
      replace E := Option.bind_eq_some_iff.mp E; obtain ⟨v15, ev15, E⟩ := E
      refine go_laload (n := 2524) ev15 dL_law_2523 rfl ?_
      refine go_iload (j := 0) (n := 2526) rfl dL_law_2524 rfl ?_
      refine go_i2l (n := 2527) dL_law_2526 rfl ?_
      refine go_lcmp (n := 2528) dL_law_2527 rfl ?_
      refine go_if_eq (tgt := 2533) (n := 2531) dL_law_2528 rfl rfl (fun c16 => ?_) (fun c16 => ?_)
      · rw [if_pos c16] at E
        refine go_pick (lv' := [(0, vr (some 4000000)), (1, vr l1), (2, vr l2), (3, vr l3), (4, vi l4)]) [2, 3, 4, 5, 6] rfl ?_
        exact SXL_law_L2533 sl sc Q nm hSc hEnd _ hrc23 _ _ _ _  _ E
      · rw [if_neg c16] at E
        refine go_iconst (z := 0) (n := 2532) ⟨by decide, by decide⟩ dL_law_2531 rfl ?_
        exact absurd (Prod.mk.inj (Option.some.inj E)).1 (by decide)
  · rw [if_neg c13] at E
    refine go_iconst (z := 0) (n := 2515) ⟨by decide, by decide⟩ dL_law_2514 rfl ?_
    exact absurd (Prod.mk.inj (Option.some.inj E)).1 (by decide)
noncomputable def XL_law_L2536 (F : Nat) (sl : Nat) (sc : Nat → Int) (rc23 : Option Nat → Option Nat → Option Nat → Int → HP → Option (Int × HP)) (l1 : Option Nat) (l2 : Option Nat) (l3 : Option Nat) (l4 : Int)  (h : HP) : Option (Int × HP) :=
  (xrc h l1 11 6).bind fun a3 =>
  xb (X11_wages F a3 h) fun v1 h2 =>
  (xrc h2 l2 12 31).bind fun a6 =>
  xb (X12_wages F a6 h2) fun v4 h5 =>
  if v1 = v4 then
    XL_law_L2868 F sl sc rc23 l1 l2 l3 l4 h5
  else
    some (0, h5)
set_option maxRecDepth 100000 in
theorem SXL_law_L2536 {K : Ctx} {F : Nat} {hf : HP} (sl : Nat) (sc : Nat → Int) (Q : State → Prop) (nm : String) (hSc : ScK K sl sc) (hEnd : ∀ (pc : Nat) (lv : List (Nat × AV)), decode cL_law pc = .ok (.ireturn, 1) → Go K (ML_law nm) Q hf pc lv [vi 1] hf) (rc23 : Option Nat → Option Nat → Option Nat → Int → HP → Option (Int × HP)) (hrc23 : ∀ l1 l2 l3 l4 h, rc23 l1 l2 l3 l4 h = some (1, hf) → Go K (ML_law nm) Q hf 23 [(0, vr (some 4000000)), (1, vr l1), (2, vr l2), (3, vr l3), (4, vi l4)] [] h) (l1 : Option Nat) (l2 : Option Nat) (l3 : Option Nat) (l4 : Int)  (h : HP) (E : XL_law_L2536 F sl sc rc23 l1 l2 l3 l4 h = some (1, hf)) : Go K (ML_law nm) Q hf 2536 [(0, vr (some 4000000)), (1, vr l1), (2, vr l2), (3, vr l3), (4, vi l4)] [] h := by
  unfold XL_law_L2536 at E
  refine go_aload_n (j := 1) (n := 2537) rfl rfl dL_law_2536 rfl ?_
  replace E := Option.bind_eq_some_iff.mp E; obtain ⟨a3, ea3, E⟩ := E
  obtain ⟨fa3, ga3⟩ := xrc_some ea3
  replace E := xb_some E; obtain ⟨v1, h2, ev1, E⟩ := E
  refine go_callV (y := yX11_wages) (n := 2540) (st := []) (as := []) (stk9 := [vi v1]) (OX11_wages ev1) yw_X11_wages ci_11 ga3 wml_RL_264 wim_X11_wages wse_X11_wages (Nat.le_of_ble_eq_true rfl) rfl ⟨Nat.le_of_ble_eq_true rfl, Nat.le_of_ble_eq_true rfl⟩ (Nat.le_of_ble_eq_true rfl) dL_law_2537 rfl (by cases fa3; rfl) rfl ?_
  refine go_aload_n (j := 2) (n := 2541) rfl rfl dL_law_2540 rfl ?_
  replace E := Option.bind_eq_some_iff.mp E; obtain ⟨a6, ea6, E⟩ := E
  obtain ⟨fa6, ga6⟩ := xrc_some ea6
  replace E := xb_some E; obtain ⟨v4, h5, ev4, E⟩ := E
  refine go_callV (y := yX12_wages) (n := 2544) (st := [vi v1]) (as := []) (stk9 := [vi v4, vi v1]) (OX12_wages ev4) yw_X12_wages ci_12 ga6 wml_RL_267 wim_X12_wages wse_X12_wages (Nat.le_of_ble_eq_true rfl) rfl ⟨Nat.le_of_ble_eq_true rfl, Nat.le_of_ble_eq_true rfl⟩ (Nat.le_of_ble_eq_true rfl) dL_law_2541 rfl (by cases fa6; rfl) rfl ?_
  refine go_icmp_eq (tgt := 2868) (n := 2547) dL_law_2544 rfl rfl (fun c7 => ?_) (fun c7 => ?_)
  · rw [if_pos c7] at E
    exact SXL_law_L2868 sl sc Q nm hSc hEnd _ hrc23 _ _ _ _  _ E
  · rw [if_neg c7] at E
    refine go_iconst (z := 0) (n := 2548) ⟨by decide, by decide⟩ dL_law_2547 rfl ?_
    exact absurd (Prod.mk.inj (Option.some.inj E)).1 (by decide)
noncomputable def XL_law_L2614 (F : Nat) (sl : Nat) (sc : Nat → Int) (rc23 : Option Nat → Option Nat → Option Nat → Int → HP → Option (Int × HP)) (l1 : Option Nat) (l2 : Option Nat) (l3 : Option Nat) (l4 : Int)  (h : HP) : Option (Int × HP) :=
  XL_law_L2868 F sl sc rc23 l1 l2 l3 l4 h
set_option maxRecDepth 100000 in
theorem SXL_law_L2614 {K : Ctx} {F : Nat} {hf : HP} (sl : Nat) (sc : Nat → Int) (Q : State → Prop) (nm : String) (hSc : ScK K sl sc) (hEnd : ∀ (pc : Nat) (lv : List (Nat × AV)), decode cL_law pc = .ok (.ireturn, 1) → Go K (ML_law nm) Q hf pc lv [vi 1] hf) (rc23 : Option Nat → Option Nat → Option Nat → Int → HP → Option (Int × HP)) (hrc23 : ∀ l1 l2 l3 l4 h, rc23 l1 l2 l3 l4 h = some (1, hf) → Go K (ML_law nm) Q hf 23 [(0, vr (some 4000000)), (1, vr l1), (2, vr l2), (3, vr l3), (4, vi l4)] [] h) (l1 : Option Nat) (l2 : Option Nat) (l3 : Option Nat) (l4 : Int)  (h : HP) (E : XL_law_L2614 F sl sc rc23 l1 l2 l3 l4 h = some (1, hf)) : Go K (ML_law nm) Q hf 2614 [(0, vr (some 4000000)), (1, vr l1), (2, vr l2), (3, vr l3), (4, vi l4)] [] h := by
  unfold XL_law_L2614 at E
  refine go_goto (tgt := 2868) dL_law_2614 rfl ?_
  exact SXL_law_L2868 sl sc Q nm hSc hEnd _ hrc23 _ _ _ _  _ E
noncomputable def XL_law_L2549 (F : Nat) (sl : Nat) (sc : Nat → Int) (rc23 : Option Nat → Option Nat → Option Nat → Int → HP → Option (Int × HP)) (l1 : Option Nat) (l2 : Option Nat) (l3 : Option Nat) (l4 : Int)  (h : HP) : Option (Int × HP) :=
  (xsc sl sc (w32 (l4 + 1))).bind fun v1 =>
  (xsc sl sc (w32 (l4 + 2))).bind fun v2 =>
  xb (XL_plan F l1 v1 v2 l3 h) fun v3 h4 =>
  (xsc sl sc (w32 (l4 + 1))).bind fun v5 =>
  (xsc sl sc (w32 (l4 + 2))).bind fun v6 =>
  (xrc h4 l2 12 31).bind fun a9 =>
  xb (X12_plan F a9 v5 v6 h4) fun v7 h8 =>
  (xrc h8 l2 12 31).bind fun a12 =>
  xb (X12_thrown F a12 h8) fun v10 h11 =>
  if v10 = v3 then
    if v3 = 0 then
      (xaJ h11 l3 0).bind fun v15 =>
      if (xcmp v15 v7) = 0 then
        XL_law_L2614 F sl sc rc23 l1 l2 l3 l4 h11
      else
        some (0, h11)
    else
      XL_law_L2614 F sl sc rc23 l1 l2 l3 l4 h11
  else
    some (0, h11)
set_option maxRecDepth 100000 in
theorem SXL_law_L2549 {K : Ctx} {F : Nat} {hf : HP} (sl : Nat) (sc : Nat → Int) (Q : State → Prop) (nm : String) (hSc : ScK K sl sc) (hEnd : ∀ (pc : Nat) (lv : List (Nat × AV)), decode cL_law pc = .ok (.ireturn, 1) → Go K (ML_law nm) Q hf pc lv [vi 1] hf) (rc23 : Option Nat → Option Nat → Option Nat → Int → HP → Option (Int × HP)) (hrc23 : ∀ l1 l2 l3 l4 h, rc23 l1 l2 l3 l4 h = some (1, hf) → Go K (ML_law nm) Q hf 23 [(0, vr (some 4000000)), (1, vr l1), (2, vr l2), (3, vr l3), (4, vi l4)] [] h) (l1 : Option Nat) (l2 : Option Nat) (l3 : Option Nat) (l4 : Int)  (h : HP) (E : XL_law_L2549 F sl sc rc23 l1 l2 l3 l4 h = some (1, hf)) : Go K (ML_law nm) Q hf 2549 [(0, vr (some 4000000)), (1, vr l1), (2, vr l2), (3, vr l3), (4, vi l4)] [] h := by
  unfold XL_law_L2549 at E
  refine go_aload_n (j := 1) (n := 2550) rfl rfl dL_law_2549 rfl ?_
  refine go_aload_n (j := 0) (n := 2551) rfl rfl dL_law_2550 rfl ?_
  refine go_iload (j := 4) (n := 2553) rfl dL_law_2551 rfl ?_
  refine go_iconst (z := 1) (n := 2554) ⟨by decide, by decide⟩ dL_law_2553 rfl ?_
  refine go_iadd (n := 2555) dL_law_2554 rfl ?_
  replace E := Option.bind_eq_some_iff.mp E; obtain ⟨v1, ev1, E⟩ := E
  refine go_sld (n := 2556) hSc ev1 dL_law_2555 rfl ?_
  refine go_aload_n (j := 0) (n := 2557) rfl rfl dL_law_2556 rfl ?_
  refine go_iload (j := 4) (n := 2559) rfl dL_law_2557 rfl ?_
  refine go_iconst (z := 2) (n := 2560) ⟨by decide, by decide⟩ dL_law_2559 rfl ?_
  refine go_iadd (n := 2561) dL_law_2560 rfl ?_
  replace E := Option.bind_eq_some_iff.mp E; obtain ⟨v2, ev2, E⟩ := E
  refine go_sld (n := 2562) hSc ev2 dL_law_2561 rfl ?_
  refine go_aload_n (j := 3) (n := 2563) rfl rfl dL_law_2562 rfl ?_
  replace E := xb_some E; obtain ⟨v3, h4, ev3, E⟩ := E
  refine go_callSW (y := yL_plan) (n := 2566) (st := []) (as := [vr l1, vi v1, vi v2, vr l3]) (stk9 := [vi v3]) (OXL_plan ev3) yw_L_plan wml_RL_268 wst_L_plan (Nat.le_of_ble_eq_true rfl) rfl ⟨Nat.le_of_ble_eq_true rfl, Nat.le_of_ble_eq_true rfl⟩ (Nat.le_of_ble_eq_true rfl) dL_law_2563 rfl rfl rfl ?_
  refine go_istore (n := 2568) (lv' := [(5, vi v3), (0, vr (some 4000000)), (1, vr l1), (2, vr l2), (3, vr l3), (4, vi l4)]) dL_law_2566 rfl (Nat.le_of_ble_eq_true rfl) rfl ?_
  refine go_aload_n (j := 3) (n := 2569) rfl rfl dL_law_2568 rfl ?_
  refine go_aload_n (j := 1) (n := 2570) rfl rfl dL_law_2569 rfl ?_
  refine go_iload (j := 5) (n := 2572) rfl dL_law_2570 rfl ?_
  refine go_iconst (z := 1) (n := 2573) ⟨by decide, by decide⟩ dL_law_2572 rfl ?_
  refine go_iadd (n := 2574) dL_law_2573 rfl ?_
  replace E := Option.bind_eq_some_iff.mp E; obtain ⟨v5, ev5, E⟩ := E
  refine go_sld (n := 2575) hSc ev5 dL_law_2574 rfl ?_
  refine go_aload_n (j := 1) (n := 2576) rfl rfl dL_law_2575 rfl ?_
  refine go_iload (j := 5) (n := 2578) rfl dL_law_2576 rfl ?_
  refine go_iconst (z := 2) (n := 2579) ⟨by decide, by decide⟩ dL_law_2578 rfl ?_
  refine go_iadd (n := 2580) dL_law_2579 rfl ?_
  replace E := Option.bind_eq_some_iff.mp E; obtain ⟨v6, ev6, E⟩ := E
  refine go_sld (n := 2581) hSc ev6 dL_law_2580 rfl ?_
  replace E := Option.bind_eq_some_iff.mp E; obtain ⟨a9, ea9, E⟩ := E
  obtain ⟨fa9, ga9⟩ := xrc_some ea9
  replace E := xb_some E; obtain ⟨v7, h8, ev7, E⟩ := E
  refine go_callV (y := yX12_plan) (n := 2584) (st := []) (as := [vi v5, vi v6]) (stk9 := [vi v7]) (OX12_plan ev7) yw_X12_plan ci_12 ga9 wml_RL_270 wim_X12_plan wse_X12_plan (Nat.le_of_ble_eq_true rfl) rfl ⟨Nat.le_of_ble_eq_true rfl, Nat.le_of_ble_eq_true rfl⟩ (Nat.le_of_ble_eq_true rfl) dL_law_2581 rfl (by cases fa9; rfl) rfl ?_
  refine go_istore (n := 2586) (lv' := [(6, vi v7), (5, vi v3), (0, vr (some 4000000)), (1, vr l1), (2, vr l2), (3, vr l3), (4, vi l4)]) dL_law_2584 rfl (Nat.le_of_ble_eq_true rfl) rfl ?_
  refine go_aload_n (j := 4) (n := 2587) rfl rfl dL_law_2586 rfl ?_
  replace E := Option.bind_eq_some_iff.mp E; obtain ⟨a12, ea12, E⟩ := E
  obtain ⟨fa12, ga12⟩ := xrc_some ea12
  replace E := xb_some E; obtain ⟨v10, h11, ev10, E⟩ := E
  refine go_callV (y := yX12_thrown) (n := 2590) (st := []) (as := []) (stk9 := [vi v10]) (OX12_thrown ev10) yw_X12_thrown ci_12 ga12 wml_RL_146 wim_X12_thrown wse_X12_thrown (Nat.le_of_ble_eq_true rfl) rfl ⟨Nat.le_of_ble_eq_true rfl, Nat.le_of_ble_eq_true rfl⟩ (Nat.le_of_ble_eq_true rfl) dL_law_2587 rfl (by cases fa12; rfl) rfl ?_
  refine go_iload (j := 1) (n := 2592) rfl dL_law_2590 rfl ?_
  refine go_icmp_eq (tgt := 2597) (n := 2595) dL_law_2592 rfl rfl (fun c13 => ?_) (fun c13 => ?_)
  · rw [if_pos c13] at E
    refine go_iload (j := 1) (n := 2599) rfl dL_law_2597 rfl ?_
    refine go_if_ne (tgt := 2614) (n := 2602) dL_law_2599 rfl rfl (fun c14 => ?_) (fun c14 => ?_)
    · rw [if_neg c14] at E
      refine go_pick (lv' := [(0, vr (some 4000000)), (1, vr l1), (2, vr l2), (3, vr l3), (4, vi l4)]) [2, 3, 4, 5, 6] rfl ?_
      exact SXL_law_L2614 sl sc Q nm hSc hEnd _ hrc23 _ _ _ _  _ E
    · rw [if_pos c14] at E
      refine go_aload_n (j := 5) (n := 2603) rfl rfl dL_law_2602 rfl ?_
      refine go_iconst (z := 0) (n := 2604) ⟨by decide, by decide⟩ dL_law_2603 rfl ?_
      replace E := Option.bind_eq_some_iff.mp E; obtain ⟨v15, ev15, E⟩ := E
      refine go_laload (n := 2605) ev15 dL_law_2604 rfl ?_
      refine go_iload (j := 0) (n := 2607) rfl dL_law_2605 rfl ?_
      refine go_i2l (n := 2608) dL_law_2607 rfl ?_
      refine go_lcmp (n := 2609) dL_law_2608 rfl ?_
      refine go_if_eq (tgt := 2614) (n := 2612) dL_law_2609 rfl rfl (fun c16 => ?_) (fun c16 => ?_)
      · rw [if_pos c16] at E
        refine go_pick (lv' := [(0, vr (some 4000000)), (1, vr l1), (2, vr l2), (3, vr l3), (4, vi l4)]) [2, 3, 4, 5, 6] rfl ?_
        exact SXL_law_L2614 sl sc Q nm hSc hEnd _ hrc23 _ _ _ _  _ E
      · rw [if_neg c16] at E
        refine go_iconst (z := 0) (n := 2613) ⟨by decide, by decide⟩ dL_law_2612 rfl ?_
        exact absurd (Prod.mk.inj (Option.some.inj E)).1 (by decide)
  · rw [if_neg c13] at E
    refine go_iconst (z := 0) (n := 2596) ⟨by decide, by decide⟩ dL_law_2595 rfl ?_
    exact absurd (Prod.mk.inj (Option.some.inj E)).1 (by decide)
noncomputable def XL_law_L2694 (F : Nat) (sl : Nat) (sc : Nat → Int) (rc23 : Option Nat → Option Nat → Option Nat → Int → HP → Option (Int × HP)) (l1 : Option Nat) (l2 : Option Nat) (l3 : Option Nat) (l4 : Int)  (h : HP) : Option (Int × HP) :=
  XL_law_L2868 F sl sc rc23 l1 l2 l3 l4 h
set_option maxRecDepth 100000 in
theorem SXL_law_L2694 {K : Ctx} {F : Nat} {hf : HP} (sl : Nat) (sc : Nat → Int) (Q : State → Prop) (nm : String) (hSc : ScK K sl sc) (hEnd : ∀ (pc : Nat) (lv : List (Nat × AV)), decode cL_law pc = .ok (.ireturn, 1) → Go K (ML_law nm) Q hf pc lv [vi 1] hf) (rc23 : Option Nat → Option Nat → Option Nat → Int → HP → Option (Int × HP)) (hrc23 : ∀ l1 l2 l3 l4 h, rc23 l1 l2 l3 l4 h = some (1, hf) → Go K (ML_law nm) Q hf 23 [(0, vr (some 4000000)), (1, vr l1), (2, vr l2), (3, vr l3), (4, vi l4)] [] h) (l1 : Option Nat) (l2 : Option Nat) (l3 : Option Nat) (l4 : Int)  (h : HP) (E : XL_law_L2694 F sl sc rc23 l1 l2 l3 l4 h = some (1, hf)) : Go K (ML_law nm) Q hf 2694 [(0, vr (some 4000000)), (1, vr l1), (2, vr l2), (3, vr l3), (4, vi l4)] [] h := by
  unfold XL_law_L2694 at E
  refine go_goto (tgt := 2868) dL_law_2694 rfl ?_
  exact SXL_law_L2868 sl sc Q nm hSc hEnd _ hrc23 _ _ _ _  _ E
noncomputable def XL_law_L2617 (F : Nat) (sl : Nat) (sc : Nat → Int) (rc23 : Option Nat → Option Nat → Option Nat → Int → HP → Option (Int × HP)) (l1 : Option Nat) (l2 : Option Nat) (l3 : Option Nat) (l4 : Int)  (h : HP) : Option (Int × HP) :=
  (xsc sl sc (w32 (l4 + 1))).bind fun v1 =>
  (xsc sl sc (w32 (l4 + 2))).bind fun v2 =>
  (xsc sl sc (w32 (l4 + 3))).bind fun v3 =>
  xb (XL_which F l1 v1 v2 v3 l3 h) fun v4 h5 =>
  (xsc sl sc (w32 (l4 + 1))).bind fun v6 =>
  (xsc sl sc (w32 (l4 + 2))).bind fun v7 =>
  (xsc sl sc (w32 (l4 + 3))).bind fun v8 =>
  (xrc h5 l2 12 31).bind fun a11 =>
  xb (X12_which F a11 v6 v7 v8 h5) fun v9 h10 =>
  (xrc h10 l2 12 31).bind fun a14 =>
  xb (X12_thrown F a14 h10) fun v12 h13 =>
  if v12 = v4 then
    if v4 = 0 then
      (xaJ h13 l3 0).bind fun v17 =>
      if (xcmp v17 v9) = 0 then
        XL_law_L2694 F sl sc rc23 l1 l2 l3 l4 h13
      else
        some (0, h13)
    else
      XL_law_L2694 F sl sc rc23 l1 l2 l3 l4 h13
  else
    some (0, h13)
set_option maxRecDepth 100000 in
theorem SXL_law_L2617 {K : Ctx} {F : Nat} {hf : HP} (sl : Nat) (sc : Nat → Int) (Q : State → Prop) (nm : String) (hSc : ScK K sl sc) (hEnd : ∀ (pc : Nat) (lv : List (Nat × AV)), decode cL_law pc = .ok (.ireturn, 1) → Go K (ML_law nm) Q hf pc lv [vi 1] hf) (rc23 : Option Nat → Option Nat → Option Nat → Int → HP → Option (Int × HP)) (hrc23 : ∀ l1 l2 l3 l4 h, rc23 l1 l2 l3 l4 h = some (1, hf) → Go K (ML_law nm) Q hf 23 [(0, vr (some 4000000)), (1, vr l1), (2, vr l2), (3, vr l3), (4, vi l4)] [] h) (l1 : Option Nat) (l2 : Option Nat) (l3 : Option Nat) (l4 : Int)  (h : HP) (E : XL_law_L2617 F sl sc rc23 l1 l2 l3 l4 h = some (1, hf)) : Go K (ML_law nm) Q hf 2617 [(0, vr (some 4000000)), (1, vr l1), (2, vr l2), (3, vr l3), (4, vi l4)] [] h := by
  unfold XL_law_L2617 at E
  refine go_aload_n (j := 1) (n := 2618) rfl rfl dL_law_2617 rfl ?_
  refine go_aload_n (j := 0) (n := 2619) rfl rfl dL_law_2618 rfl ?_
  refine go_iload (j := 4) (n := 2621) rfl dL_law_2619 rfl ?_
  refine go_iconst (z := 1) (n := 2622) ⟨by decide, by decide⟩ dL_law_2621 rfl ?_
  refine go_iadd (n := 2623) dL_law_2622 rfl ?_
  replace E := Option.bind_eq_some_iff.mp E; obtain ⟨v1, ev1, E⟩ := E
  refine go_sld (n := 2624) hSc ev1 dL_law_2623 rfl ?_
  refine go_aload_n (j := 0) (n := 2625) rfl rfl dL_law_2624 rfl ?_
  refine go_iload (j := 4) (n := 2627) rfl dL_law_2625 rfl ?_
  refine go_iconst (z := 2) (n := 2628) ⟨by decide, by decide⟩ dL_law_2627 rfl ?_
  refine go_iadd (n := 2629) dL_law_2628 rfl ?_
  replace E := Option.bind_eq_some_iff.mp E; obtain ⟨v2, ev2, E⟩ := E
  refine go_sld (n := 2630) hSc ev2 dL_law_2629 rfl ?_
  refine go_aload_n (j := 0) (n := 2631) rfl rfl dL_law_2630 rfl ?_
  refine go_iload (j := 4) (n := 2633) rfl dL_law_2631 rfl ?_
  refine go_iconst (z := 3) (n := 2634) ⟨by decide, by decide⟩ dL_law_2633 rfl ?_
  refine go_iadd (n := 2635) dL_law_2634 rfl ?_
  replace E := Option.bind_eq_some_iff.mp E; obtain ⟨v3, ev3, E⟩ := E
  refine go_sld (n := 2636) hSc ev3 dL_law_2635 rfl ?_
  refine go_aload_n (j := 3) (n := 2637) rfl rfl dL_law_2636 rfl ?_
  replace E := xb_some E; obtain ⟨v4, h5, ev4, E⟩ := E
  refine go_callSW (y := yL_which) (n := 2640) (st := []) (as := [vr l1, vi v1, vi v2, vi v3, vr l3]) (stk9 := [vi v4]) (OXL_which ev4) yw_L_which wml_RL_271 wst_L_which (Nat.le_of_ble_eq_true rfl) rfl ⟨Nat.le_of_ble_eq_true rfl, Nat.le_of_ble_eq_true rfl⟩ (Nat.le_of_ble_eq_true rfl) dL_law_2637 rfl rfl rfl ?_
  refine go_istore (n := 2642) (lv' := [(5, vi v4), (0, vr (some 4000000)), (1, vr l1), (2, vr l2), (3, vr l3), (4, vi l4)]) dL_law_2640 rfl (Nat.le_of_ble_eq_true rfl) rfl ?_
  refine go_aload_n (j := 3) (n := 2643) rfl rfl dL_law_2642 rfl ?_
  refine go_aload_n (j := 1) (n := 2644) rfl rfl dL_law_2643 rfl ?_
  refine go_iload (j := 5) (n := 2646) rfl dL_law_2644 rfl ?_
  refine go_iconst (z := 1) (n := 2647) ⟨by decide, by decide⟩ dL_law_2646 rfl ?_
  refine go_iadd (n := 2648) dL_law_2647 rfl ?_
  replace E := Option.bind_eq_some_iff.mp E; obtain ⟨v6, ev6, E⟩ := E
  refine go_sld (n := 2649) hSc ev6 dL_law_2648 rfl ?_
  refine go_aload_n (j := 1) (n := 2650) rfl rfl dL_law_2649 rfl ?_
  refine go_iload (j := 5) (n := 2652) rfl dL_law_2650 rfl ?_
  refine go_iconst (z := 2) (n := 2653) ⟨by decide, by decide⟩ dL_law_2652 rfl ?_
  refine go_iadd (n := 2654) dL_law_2653 rfl ?_
  replace E := Option.bind_eq_some_iff.mp E; obtain ⟨v7, ev7, E⟩ := E
  refine go_sld (n := 2655) hSc ev7 dL_law_2654 rfl ?_
  refine go_aload_n (j := 1) (n := 2656) rfl rfl dL_law_2655 rfl ?_
  refine go_iload (j := 5) (n := 2658) rfl dL_law_2656 rfl ?_
  refine go_iconst (z := 3) (n := 2659) ⟨by decide, by decide⟩ dL_law_2658 rfl ?_
  refine go_iadd (n := 2660) dL_law_2659 rfl ?_
  replace E := Option.bind_eq_some_iff.mp E; obtain ⟨v8, ev8, E⟩ := E
  refine go_sld (n := 2661) hSc ev8 dL_law_2660 rfl ?_
  replace E := Option.bind_eq_some_iff.mp E; obtain ⟨a11, ea11, E⟩ := E
  obtain ⟨fa11, ga11⟩ := xrc_some ea11
  replace E := xb_some E; obtain ⟨v9, h10, ev9, E⟩ := E
  refine go_callV (y := yX12_which) (n := 2664) (st := []) (as := [vi v6, vi v7, vi v8]) (stk9 := [vi v9]) (OX12_which ev9) yw_X12_which ci_12 ga11 wml_RL_273 wim_X12_which wse_X12_which (Nat.le_of_ble_eq_true rfl) rfl ⟨Nat.le_of_ble_eq_true rfl, Nat.le_of_ble_eq_true rfl⟩ (Nat.le_of_ble_eq_true rfl) dL_law_2661 rfl (by cases fa11; rfl) rfl ?_
  refine go_istore (n := 2666) (lv' := [(6, vi v9), (5, vi v4), (0, vr (some 4000000)), (1, vr l1), (2, vr l2), (3, vr l3), (4, vi l4)]) dL_law_2664 rfl (Nat.le_of_ble_eq_true rfl) rfl ?_
  refine go_aload_n (j := 4) (n := 2667) rfl rfl dL_law_2666 rfl ?_
  replace E := Option.bind_eq_some_iff.mp E; obtain ⟨a14, ea14, E⟩ := E
  obtain ⟨fa14, ga14⟩ := xrc_some ea14
  replace E := xb_some E; obtain ⟨v12, h13, ev12, E⟩ := E
  refine go_callV (y := yX12_thrown) (n := 2670) (st := []) (as := []) (stk9 := [vi v12]) (OX12_thrown ev12) yw_X12_thrown ci_12 ga14 wml_RL_146 wim_X12_thrown wse_X12_thrown (Nat.le_of_ble_eq_true rfl) rfl ⟨Nat.le_of_ble_eq_true rfl, Nat.le_of_ble_eq_true rfl⟩ (Nat.le_of_ble_eq_true rfl) dL_law_2667 rfl (by cases fa14; rfl) rfl ?_
  refine go_iload (j := 1) (n := 2672) rfl dL_law_2670 rfl ?_
  refine go_icmp_eq (tgt := 2677) (n := 2675) dL_law_2672 rfl rfl (fun c15 => ?_) (fun c15 => ?_)
  · rw [if_pos c15] at E
    refine go_iload (j := 1) (n := 2679) rfl dL_law_2677 rfl ?_
    refine go_if_ne (tgt := 2694) (n := 2682) dL_law_2679 rfl rfl (fun c16 => ?_) (fun c16 => ?_)
    · rw [if_neg c16] at E
      refine go_pick (lv' := [(0, vr (some 4000000)), (1, vr l1), (2, vr l2), (3, vr l3), (4, vi l4)]) [2, 3, 4, 5, 6] rfl ?_
      exact SXL_law_L2694 sl sc Q nm hSc hEnd _ hrc23 _ _ _ _  _ E
    · rw [if_pos c16] at E
      refine go_aload_n (j := 5) (n := 2683) rfl rfl dL_law_2682 rfl ?_
      refine go_iconst (z := 0) (n := 2684) ⟨by decide, by decide⟩ dL_law_2683 rfl ?_
      replace E := Option.bind_eq_some_iff.mp E; obtain ⟨v17, ev17, E⟩ := E
      refine go_laload (n := 2685) ev17 dL_law_2684 rfl ?_
      refine go_iload (j := 0) (n := 2687) rfl dL_law_2685 rfl ?_
      refine go_i2l (n := 2688) dL_law_2687 rfl ?_
      refine go_lcmp (n := 2689) dL_law_2688 rfl ?_
      refine go_if_eq (tgt := 2694) (n := 2692) dL_law_2689 rfl rfl (fun c18 => ?_) (fun c18 => ?_)
      · rw [if_pos c18] at E
        refine go_pick (lv' := [(0, vr (some 4000000)), (1, vr l1), (2, vr l2), (3, vr l3), (4, vi l4)]) [2, 3, 4, 5, 6] rfl ?_
        exact SXL_law_L2694 sl sc Q nm hSc hEnd _ hrc23 _ _ _ _  _ E
      · rw [if_neg c18] at E
        refine go_iconst (z := 0) (n := 2693) ⟨by decide, by decide⟩ dL_law_2692 rfl ?_
        exact absurd (Prod.mk.inj (Option.some.inj E)).1 (by decide)
  · rw [if_neg c15] at E
    refine go_iconst (z := 0) (n := 2676) ⟨by decide, by decide⟩ dL_law_2675 rfl ?_
    exact absurd (Prod.mk.inj (Option.some.inj E)).1 (by decide)
noncomputable def XL_law_L2730 (F : Nat) (sl : Nat) (sc : Nat → Int) (rc23 : Option Nat → Option Nat → Option Nat → Int → HP → Option (Int × HP)) (l1 : Option Nat) (l2 : Option Nat) (l3 : Option Nat) (l4 : Int) (s0 : Int) (s1 : Option Nat) (s2 : Int) (h : HP) : Option (Int × HP) :=
  (xrc h s1 12 31).bind fun a3 =>
  xb (X12_beside F a3 s0 h) fun v1 h2 =>
  if s2 = v1 then
    XL_law_L2868 F sl sc rc23 l1 l2 l3 l4 h2
  else
    some (0, h2)
set_option maxRecDepth 100000 in
theorem SXL_law_L2730 {K : Ctx} {F : Nat} {hf : HP} (sl : Nat) (sc : Nat → Int) (Q : State → Prop) (nm : String) (hSc : ScK K sl sc) (hEnd : ∀ (pc : Nat) (lv : List (Nat × AV)), decode cL_law pc = .ok (.ireturn, 1) → Go K (ML_law nm) Q hf pc lv [vi 1] hf) (rc23 : Option Nat → Option Nat → Option Nat → Int → HP → Option (Int × HP)) (hrc23 : ∀ l1 l2 l3 l4 h, rc23 l1 l2 l3 l4 h = some (1, hf) → Go K (ML_law nm) Q hf 23 [(0, vr (some 4000000)), (1, vr l1), (2, vr l2), (3, vr l3), (4, vi l4)] [] h) (l1 : Option Nat) (l2 : Option Nat) (l3 : Option Nat) (l4 : Int) (s0 : Int) (s1 : Option Nat) (s2 : Int) (h : HP) (E : XL_law_L2730 F sl sc rc23 l1 l2 l3 l4 s0 s1 s2 h = some (1, hf)) : Go K (ML_law nm) Q hf 2730 [(0, vr (some 4000000)), (1, vr l1), (2, vr l2), (3, vr l3), (4, vi l4)] [vi s0, vr s1, vi s2] h := by
  unfold XL_law_L2730 at E
  replace E := Option.bind_eq_some_iff.mp E; obtain ⟨a3, ea3, E⟩ := E
  obtain ⟨fa3, ga3⟩ := xrc_some ea3
  replace E := xb_some E; obtain ⟨v1, h2, ev1, E⟩ := E
  refine go_callV (y := yX12_beside) (n := 2733) (st := [vi s2]) (as := [vi s0]) (stk9 := [vi v1, vi s2]) (OX12_beside ev1) yw_X12_beside ci_12 ga3 wml_RL_278 wim_X12_beside wse_X12_beside (Nat.le_of_ble_eq_true rfl) rfl ⟨Nat.le_of_ble_eq_true rfl, Nat.le_of_ble_eq_true rfl⟩ (Nat.le_of_ble_eq_true rfl) dL_law_2730 rfl (by cases fa3; rfl) rfl ?_
  refine go_icmp_eq (tgt := 2868) (n := 2736) dL_law_2733 rfl rfl (fun c4 => ?_) (fun c4 => ?_)
  · rw [if_pos c4] at E
    exact SXL_law_L2868 sl sc Q nm hSc hEnd _ hrc23 _ _ _ _  _ E
  · rw [if_neg c4] at E
    refine go_iconst (z := 0) (n := 2737) ⟨by decide, by decide⟩ dL_law_2736 rfl ?_
    exact absurd (Prod.mk.inj (Option.some.inj E)).1 (by decide)
noncomputable def XL_law_L2712 (F : Nat) (sl : Nat) (sc : Nat → Int) (rc23 : Option Nat → Option Nat → Option Nat → Int → HP → Option (Int × HP)) (l1 : Option Nat) (l2 : Option Nat) (l3 : Option Nat) (l4 : Int) (s0 : Int) (s1 : Option Nat) (h : HP) : Option (Int × HP) :=
  (xrc h s1 11 6).bind fun a3 =>
  xb (X11_beside F a3 s0 h) fun v1 h2 =>
  (xsc sl sc (w32 (l4 + 1))).bind fun v4 =>
  XL_law_L2730 F sl sc rc23 l1 l2 l3 l4 (if v4 = 0 then 0 else 1) l2 v1 h2
set_option maxRecDepth 100000 in
theorem SXL_law_L2712 {K : Ctx} {F : Nat} {hf : HP} (sl : Nat) (sc : Nat → Int) (Q : State → Prop) (nm : String) (hSc : ScK K sl sc) (hEnd : ∀ (pc : Nat) (lv : List (Nat × AV)), decode cL_law pc = .ok (.ireturn, 1) → Go K (ML_law nm) Q hf pc lv [vi 1] hf) (rc23 : Option Nat → Option Nat → Option Nat → Int → HP → Option (Int × HP)) (hrc23 : ∀ l1 l2 l3 l4 h, rc23 l1 l2 l3 l4 h = some (1, hf) → Go K (ML_law nm) Q hf 23 [(0, vr (some 4000000)), (1, vr l1), (2, vr l2), (3, vr l3), (4, vi l4)] [] h) (l1 : Option Nat) (l2 : Option Nat) (l3 : Option Nat) (l4 : Int) (s0 : Int) (s1 : Option Nat) (h : HP) (E : XL_law_L2712 F sl sc rc23 l1 l2 l3 l4 s0 s1 h = some (1, hf)) : Go K (ML_law nm) Q hf 2712 [(0, vr (some 4000000)), (1, vr l1), (2, vr l2), (3, vr l3), (4, vi l4)] [vi s0, vr s1] h := by
  unfold XL_law_L2712 at E
  replace E := Option.bind_eq_some_iff.mp E; obtain ⟨a3, ea3, E⟩ := E
  obtain ⟨fa3, ga3⟩ := xrc_some ea3
  replace E := xb_some E; obtain ⟨v1, h2, ev1, E⟩ := E
  refine go_callV (y := yX11_beside) (n := 2715) (st := []) (as := [vi s0]) (stk9 := [vi v1]) (OX11_beside ev1) yw_X11_beside ci_11 ga3 wml_RL_274 wim_X11_beside wse_X11_beside (Nat.le_of_ble_eq_true rfl) rfl ⟨Nat.le_of_ble_eq_true rfl, Nat.le_of_ble_eq_true rfl⟩ (Nat.le_of_ble_eq_true rfl) dL_law_2712 rfl (by cases fa3; rfl) rfl ?_
  refine go_aload_n (j := 2) (n := 2716) rfl rfl dL_law_2715 rfl ?_
  refine go_aload_n (j := 0) (n := 2717) rfl rfl dL_law_2716 rfl ?_
  refine go_iload (j := 4) (n := 2719) rfl dL_law_2717 rfl ?_
  refine go_iconst (z := 1) (n := 2720) ⟨by decide, by decide⟩ dL_law_2719 rfl ?_
  refine go_iadd (n := 2721) dL_law_2720 rfl ?_
  replace E := Option.bind_eq_some_iff.mp E; obtain ⟨v4, ev4, E⟩ := E
  refine go_sld (n := 2722) hSc ev4 dL_law_2721 rfl ?_
  refine go_if_eq (tgt := 2729) (n := 2725) dL_law_2722 rfl rfl (fun c5 => ?_) (fun c5 => ?_)
  · simp only [if_pos c5] at E
    refine go_iconst (z := 0) (n := 2730) ⟨by decide, by decide⟩ dL_law_2729 rfl ?_
    exact SXL_law_L2730 sl sc Q nm hSc hEnd _ hrc23 _ _ _ _ _ _ _ _ E
  · simp only [if_neg c5] at E
    refine go_iconst (z := 1) (n := 2726) ⟨by decide, by decide⟩ dL_law_2725 rfl ?_
    refine go_goto (tgt := 2730) dL_law_2726 rfl ?_
    exact SXL_law_L2730 sl sc Q nm hSc hEnd _ hrc23 _ _ _ _ _ _ _ _ E
noncomputable def XL_law_L2697 (F : Nat) (sl : Nat) (sc : Nat → Int) (rc23 : Option Nat → Option Nat → Option Nat → Int → HP → Option (Int × HP)) (l1 : Option Nat) (l2 : Option Nat) (l3 : Option Nat) (l4 : Int)  (h : HP) : Option (Int × HP) :=
  (xsc sl sc (w32 (l4 + 1))).bind fun v1 =>
  XL_law_L2712 F sl sc rc23 l1 l2 l3 l4 (if v1 = 0 then 0 else 1) l1 h
set_option maxRecDepth 100000 in
theorem SXL_law_L2697 {K : Ctx} {F : Nat} {hf : HP} (sl : Nat) (sc : Nat → Int) (Q : State → Prop) (nm : String) (hSc : ScK K sl sc) (hEnd : ∀ (pc : Nat) (lv : List (Nat × AV)), decode cL_law pc = .ok (.ireturn, 1) → Go K (ML_law nm) Q hf pc lv [vi 1] hf) (rc23 : Option Nat → Option Nat → Option Nat → Int → HP → Option (Int × HP)) (hrc23 : ∀ l1 l2 l3 l4 h, rc23 l1 l2 l3 l4 h = some (1, hf) → Go K (ML_law nm) Q hf 23 [(0, vr (some 4000000)), (1, vr l1), (2, vr l2), (3, vr l3), (4, vi l4)] [] h) (l1 : Option Nat) (l2 : Option Nat) (l3 : Option Nat) (l4 : Int)  (h : HP) (E : XL_law_L2697 F sl sc rc23 l1 l2 l3 l4 h = some (1, hf)) : Go K (ML_law nm) Q hf 2697 [(0, vr (some 4000000)), (1, vr l1), (2, vr l2), (3, vr l3), (4, vi l4)] [] h := by
  unfold XL_law_L2697 at E
  refine go_aload_n (j := 1) (n := 2698) rfl rfl dL_law_2697 rfl ?_
  refine go_aload_n (j := 0) (n := 2699) rfl rfl dL_law_2698 rfl ?_
  refine go_iload (j := 4) (n := 2701) rfl dL_law_2699 rfl ?_
  refine go_iconst (z := 1) (n := 2702) ⟨by decide, by decide⟩ dL_law_2701 rfl ?_
  refine go_iadd (n := 2703) dL_law_2702 rfl ?_
  replace E := Option.bind_eq_some_iff.mp E; obtain ⟨v1, ev1, E⟩ := E
  refine go_sld (n := 2704) hSc ev1 dL_law_2703 rfl ?_
  refine go_if_eq (tgt := 2711) (n := 2707) dL_law_2704 rfl rfl (fun c2 => ?_) (fun c2 => ?_)
  · simp only [if_pos c2] at E
    refine go_iconst (z := 0) (n := 2712) ⟨by decide, by decide⟩ dL_law_2711 rfl ?_
    exact SXL_law_L2712 sl sc Q nm hSc hEnd _ hrc23 _ _ _ _ _ _ _ E
  · simp only [if_neg c2] at E
    refine go_iconst (z := 1) (n := 2708) ⟨by decide, by decide⟩ dL_law_2707 rfl ?_
    refine go_goto (tgt := 2712) dL_law_2708 rfl ?_
    exact SXL_law_L2712 sl sc Q nm hSc hEnd _ hrc23 _ _ _ _ _ _ _ E
noncomputable def XL_law_L2803 (F : Nat) (sl : Nat) (sc : Nat → Int) (rc23 : Option Nat → Option Nat → Option Nat → Int → HP → Option (Int × HP)) (l1 : Option Nat) (l2 : Option Nat) (l3 : Option Nat) (l4 : Int)  (h : HP) : Option (Int × HP) :=
  XL_law_L2868 F sl sc rc23 l1 l2 l3 l4 h
set_option maxRecDepth 100000 in
theorem SXL_law_L2803 {K : Ctx} {F : Nat} {hf : HP} (sl : Nat) (sc : Nat → Int) (Q : State → Prop) (nm : String) (hSc : ScK K sl sc) (hEnd : ∀ (pc : Nat) (lv : List (Nat × AV)), decode cL_law pc = .ok (.ireturn, 1) → Go K (ML_law nm) Q hf pc lv [vi 1] hf) (rc23 : Option Nat → Option Nat → Option Nat → Int → HP → Option (Int × HP)) (hrc23 : ∀ l1 l2 l3 l4 h, rc23 l1 l2 l3 l4 h = some (1, hf) → Go K (ML_law nm) Q hf 23 [(0, vr (some 4000000)), (1, vr l1), (2, vr l2), (3, vr l3), (4, vi l4)] [] h) (l1 : Option Nat) (l2 : Option Nat) (l3 : Option Nat) (l4 : Int)  (h : HP) (E : XL_law_L2803 F sl sc rc23 l1 l2 l3 l4 h = some (1, hf)) : Go K (ML_law nm) Q hf 2803 [(0, vr (some 4000000)), (1, vr l1), (2, vr l2), (3, vr l3), (4, vi l4)] [] h := by
  unfold XL_law_L2803 at E
  refine go_goto (tgt := 2868) dL_law_2803 rfl ?_
  exact SXL_law_L2868 sl sc Q nm hSc hEnd _ hrc23 _ _ _ _  _ E
noncomputable def XL_law_L2738 (F : Nat) (sl : Nat) (sc : Nat → Int) (rc23 : Option Nat → Option Nat → Option Nat → Int → HP → Option (Int × HP)) (l1 : Option Nat) (l2 : Option Nat) (l3 : Option Nat) (l4 : Int)  (h : HP) : Option (Int × HP) :=
  (xsc sl sc (w32 (l4 + 1))).bind fun v1 =>
  (xsc sl sc (w32 (l4 + 2))).bind fun v2 =>
  xb (XL_tear F l1 v1 v2 l3 h) fun v3 h4 =>
  (xsc sl sc (w32 (l4 + 1))).bind fun v5 =>
  (xsc sl sc (w32 (l4 + 2))).bind fun v6 =>
  (xrc h4 l2 12 31).bind fun a9 =>
  xb (X12_tear F a9 v5 v6 h4) fun v7 h8 =>
  (xrc h8 l2 12 31).bind fun a12 =>
  xb (X12_thrown F a12 h8) fun v10 h11 =>
  if v10 = v3 then
    if v3 = 0 then
      (xaJ h11 l3 0).bind fun v15 =>
      if (xcmp v15 v7) = 0 then
        XL_law_L2803 F sl sc rc23 l1 l2 l3 l4 h11
      else
        some (0, h11)
    else
      XL_law_L2803 F sl sc rc23 l1 l2 l3 l4 h11
  else
    some (0, h11)
set_option maxRecDepth 100000 in
theorem SXL_law_L2738 {K : Ctx} {F : Nat} {hf : HP} (sl : Nat) (sc : Nat → Int) (Q : State → Prop) (nm : String) (hSc : ScK K sl sc) (hEnd : ∀ (pc : Nat) (lv : List (Nat × AV)), decode cL_law pc = .ok (.ireturn, 1) → Go K (ML_law nm) Q hf pc lv [vi 1] hf) (rc23 : Option Nat → Option Nat → Option Nat → Int → HP → Option (Int × HP)) (hrc23 : ∀ l1 l2 l3 l4 h, rc23 l1 l2 l3 l4 h = some (1, hf) → Go K (ML_law nm) Q hf 23 [(0, vr (some 4000000)), (1, vr l1), (2, vr l2), (3, vr l3), (4, vi l4)] [] h) (l1 : Option Nat) (l2 : Option Nat) (l3 : Option Nat) (l4 : Int)  (h : HP) (E : XL_law_L2738 F sl sc rc23 l1 l2 l3 l4 h = some (1, hf)) : Go K (ML_law nm) Q hf 2738 [(0, vr (some 4000000)), (1, vr l1), (2, vr l2), (3, vr l3), (4, vi l4)] [] h := by
  unfold XL_law_L2738 at E
  refine go_aload_n (j := 1) (n := 2739) rfl rfl dL_law_2738 rfl ?_
  refine go_aload_n (j := 0) (n := 2740) rfl rfl dL_law_2739 rfl ?_
  refine go_iload (j := 4) (n := 2742) rfl dL_law_2740 rfl ?_
  refine go_iconst (z := 1) (n := 2743) ⟨by decide, by decide⟩ dL_law_2742 rfl ?_
  refine go_iadd (n := 2744) dL_law_2743 rfl ?_
  replace E := Option.bind_eq_some_iff.mp E; obtain ⟨v1, ev1, E⟩ := E
  refine go_sld (n := 2745) hSc ev1 dL_law_2744 rfl ?_
  refine go_aload_n (j := 0) (n := 2746) rfl rfl dL_law_2745 rfl ?_
  refine go_iload (j := 4) (n := 2748) rfl dL_law_2746 rfl ?_
  refine go_iconst (z := 2) (n := 2749) ⟨by decide, by decide⟩ dL_law_2748 rfl ?_
  refine go_iadd (n := 2750) dL_law_2749 rfl ?_
  replace E := Option.bind_eq_some_iff.mp E; obtain ⟨v2, ev2, E⟩ := E
  refine go_sld (n := 2751) hSc ev2 dL_law_2750 rfl ?_
  refine go_aload_n (j := 3) (n := 2752) rfl rfl dL_law_2751 rfl ?_
  replace E := xb_some E; obtain ⟨v3, h4, ev3, E⟩ := E
  refine go_callSW (y := yL_tear) (n := 2755) (st := []) (as := [vr l1, vi v1, vi v2, vr l3]) (stk9 := [vi v3]) (OXL_tear ev3) yw_L_tear wml_RL_279 wst_L_tear (Nat.le_of_ble_eq_true rfl) rfl ⟨Nat.le_of_ble_eq_true rfl, Nat.le_of_ble_eq_true rfl⟩ (Nat.le_of_ble_eq_true rfl) dL_law_2752 rfl rfl rfl ?_
  refine go_istore (n := 2757) (lv' := [(5, vi v3), (0, vr (some 4000000)), (1, vr l1), (2, vr l2), (3, vr l3), (4, vi l4)]) dL_law_2755 rfl (Nat.le_of_ble_eq_true rfl) rfl ?_
  refine go_aload_n (j := 3) (n := 2758) rfl rfl dL_law_2757 rfl ?_
  refine go_aload_n (j := 1) (n := 2759) rfl rfl dL_law_2758 rfl ?_
  refine go_iload (j := 5) (n := 2761) rfl dL_law_2759 rfl ?_
  refine go_iconst (z := 1) (n := 2762) ⟨by decide, by decide⟩ dL_law_2761 rfl ?_
  refine go_iadd (n := 2763) dL_law_2762 rfl ?_
  replace E := Option.bind_eq_some_iff.mp E; obtain ⟨v5, ev5, E⟩ := E
  refine go_sld (n := 2764) hSc ev5 dL_law_2763 rfl ?_
  refine go_aload_n (j := 1) (n := 2765) rfl rfl dL_law_2764 rfl ?_
  refine go_iload (j := 5) (n := 2767) rfl dL_law_2765 rfl ?_
  refine go_iconst (z := 2) (n := 2768) ⟨by decide, by decide⟩ dL_law_2767 rfl ?_
  refine go_iadd (n := 2769) dL_law_2768 rfl ?_
  replace E := Option.bind_eq_some_iff.mp E; obtain ⟨v6, ev6, E⟩ := E
  refine go_sld (n := 2770) hSc ev6 dL_law_2769 rfl ?_
  replace E := Option.bind_eq_some_iff.mp E; obtain ⟨a9, ea9, E⟩ := E
  obtain ⟨fa9, ga9⟩ := xrc_some ea9
  replace E := xb_some E; obtain ⟨v7, h8, ev7, E⟩ := E
  refine go_callV (y := yX12_tear) (n := 2773) (st := []) (as := [vi v5, vi v6]) (stk9 := [vi v7]) (OX12_tear ev7) yw_X12_tear ci_12 ga9 wml_RL_281 wim_X12_tear wse_X12_tear (Nat.le_of_ble_eq_true rfl) rfl ⟨Nat.le_of_ble_eq_true rfl, Nat.le_of_ble_eq_true rfl⟩ (Nat.le_of_ble_eq_true rfl) dL_law_2770 rfl (by cases fa9; rfl) rfl ?_
  refine go_istore (n := 2775) (lv' := [(6, vi v7), (5, vi v3), (0, vr (some 4000000)), (1, vr l1), (2, vr l2), (3, vr l3), (4, vi l4)]) dL_law_2773 rfl (Nat.le_of_ble_eq_true rfl) rfl ?_
  refine go_aload_n (j := 4) (n := 2776) rfl rfl dL_law_2775 rfl ?_
  replace E := Option.bind_eq_some_iff.mp E; obtain ⟨a12, ea12, E⟩ := E
  obtain ⟨fa12, ga12⟩ := xrc_some ea12
  replace E := xb_some E; obtain ⟨v10, h11, ev10, E⟩ := E
  refine go_callV (y := yX12_thrown) (n := 2779) (st := []) (as := []) (stk9 := [vi v10]) (OX12_thrown ev10) yw_X12_thrown ci_12 ga12 wml_RL_146 wim_X12_thrown wse_X12_thrown (Nat.le_of_ble_eq_true rfl) rfl ⟨Nat.le_of_ble_eq_true rfl, Nat.le_of_ble_eq_true rfl⟩ (Nat.le_of_ble_eq_true rfl) dL_law_2776 rfl (by cases fa12; rfl) rfl ?_
  refine go_iload (j := 1) (n := 2781) rfl dL_law_2779 rfl ?_
  refine go_icmp_eq (tgt := 2786) (n := 2784) dL_law_2781 rfl rfl (fun c13 => ?_) (fun c13 => ?_)
  · rw [if_pos c13] at E
    refine go_iload (j := 1) (n := 2788) rfl dL_law_2786 rfl ?_
    refine go_if_ne (tgt := 2803) (n := 2791) dL_law_2788 rfl rfl (fun c14 => ?_) (fun c14 => ?_)
    · rw [if_neg c14] at E
      refine go_pick (lv' := [(0, vr (some 4000000)), (1, vr l1), (2, vr l2), (3, vr l3), (4, vi l4)]) [2, 3, 4, 5, 6] rfl ?_
      exact SXL_law_L2803 sl sc Q nm hSc hEnd _ hrc23 _ _ _ _  _ E
    · rw [if_pos c14] at E
      refine go_aload_n (j := 5) (n := 2792) rfl rfl dL_law_2791 rfl ?_
      refine go_iconst (z := 0) (n := 2793) ⟨by decide, by decide⟩ dL_law_2792 rfl ?_
      replace E := Option.bind_eq_some_iff.mp E; obtain ⟨v15, ev15, E⟩ := E
      refine go_laload (n := 2794) ev15 dL_law_2793 rfl ?_
      refine go_iload (j := 0) (n := 2796) rfl dL_law_2794 rfl ?_
      refine go_i2l (n := 2797) dL_law_2796 rfl ?_
      refine go_lcmp (n := 2798) dL_law_2797 rfl ?_
      refine go_if_eq (tgt := 2803) (n := 2801) dL_law_2798 rfl rfl (fun c16 => ?_) (fun c16 => ?_)
      · rw [if_pos c16] at E
        refine go_pick (lv' := [(0, vr (some 4000000)), (1, vr l1), (2, vr l2), (3, vr l3), (4, vi l4)]) [2, 3, 4, 5, 6] rfl ?_
        exact SXL_law_L2803 sl sc Q nm hSc hEnd _ hrc23 _ _ _ _  _ E
      · rw [if_neg c16] at E
        refine go_iconst (z := 0) (n := 2802) ⟨by decide, by decide⟩ dL_law_2801 rfl ?_
        exact absurd (Prod.mk.inj (Option.some.inj E)).1 (by decide)
  · rw [if_neg c13] at E
    refine go_iconst (z := 0) (n := 2785) ⟨by decide, by decide⟩ dL_law_2784 rfl ?_
    exact absurd (Prod.mk.inj (Option.some.inj E)).1 (by decide)
noncomputable def XL_law_L2806 (F : Nat) (sl : Nat) (sc : Nat → Int) (rc23 : Option Nat → Option Nat → Option Nat → Int → HP → Option (Int × HP)) (l1 : Option Nat) (l2 : Option Nat) (l3 : Option Nat) (l4 : Int)  (h : HP) : Option (Int × HP) :=
  (xrc h l1 11 6).bind fun a3 =>
  xb (X11_check F a3 h) fun v1 h2 =>
  (xrc h2 l2 12 31).bind fun a6 =>
  xb (X12_check F a6 h2) fun v4 h5 =>
  if v1 = v4 then
    XL_law_L2868 F sl sc rc23 l1 l2 l3 l4 h5
  else
    some (0, h5)
set_option maxRecDepth 100000 in
theorem SXL_law_L2806 {K : Ctx} {F : Nat} {hf : HP} (sl : Nat) (sc : Nat → Int) (Q : State → Prop) (nm : String) (hSc : ScK K sl sc) (hEnd : ∀ (pc : Nat) (lv : List (Nat × AV)), decode cL_law pc = .ok (.ireturn, 1) → Go K (ML_law nm) Q hf pc lv [vi 1] hf) (rc23 : Option Nat → Option Nat → Option Nat → Int → HP → Option (Int × HP)) (hrc23 : ∀ l1 l2 l3 l4 h, rc23 l1 l2 l3 l4 h = some (1, hf) → Go K (ML_law nm) Q hf 23 [(0, vr (some 4000000)), (1, vr l1), (2, vr l2), (3, vr l3), (4, vi l4)] [] h) (l1 : Option Nat) (l2 : Option Nat) (l3 : Option Nat) (l4 : Int)  (h : HP) (E : XL_law_L2806 F sl sc rc23 l1 l2 l3 l4 h = some (1, hf)) : Go K (ML_law nm) Q hf 2806 [(0, vr (some 4000000)), (1, vr l1), (2, vr l2), (3, vr l3), (4, vi l4)] [] h := by
  unfold XL_law_L2806 at E
  refine go_aload_n (j := 1) (n := 2807) rfl rfl dL_law_2806 rfl ?_
  replace E := Option.bind_eq_some_iff.mp E; obtain ⟨a3, ea3, E⟩ := E
  obtain ⟨fa3, ga3⟩ := xrc_some ea3
  replace E := xb_some E; obtain ⟨v1, h2, ev1, E⟩ := E
  refine go_callV (y := yX11_check) (n := 2810) (st := []) (as := []) (stk9 := [vi v1]) (OX11_check ev1) yw_X11_check ci_11 ga3 wml_RL_282 wim_X11_check wse_X11_check (Nat.le_of_ble_eq_true rfl) rfl ⟨Nat.le_of_ble_eq_true rfl, Nat.le_of_ble_eq_true rfl⟩ (Nat.le_of_ble_eq_true rfl) dL_law_2807 rfl (by cases fa3; rfl) rfl ?_
  refine go_aload_n (j := 2) (n := 2811) rfl rfl dL_law_2810 rfl ?_
  replace E := Option.bind_eq_some_iff.mp E; obtain ⟨a6, ea6, E⟩ := E
  obtain ⟨fa6, ga6⟩ := xrc_some ea6
  replace E := xb_some E; obtain ⟨v4, h5, ev4, E⟩ := E
  refine go_callV (y := yX12_check) (n := 2814) (st := [vi v1]) (as := []) (stk9 := [vi v4, vi v1]) (OX12_check ev4) yw_X12_check ci_12 ga6 wml_RL_285 wim_X12_check wse_X12_check (Nat.le_of_ble_eq_true rfl) rfl ⟨Nat.le_of_ble_eq_true rfl, Nat.le_of_ble_eq_true rfl⟩ (Nat.le_of_ble_eq_true rfl) dL_law_2811 rfl (by cases fa6; rfl) rfl ?_
  refine go_icmp_eq (tgt := 2868) (n := 2817) dL_law_2814 rfl rfl (fun c7 => ?_) (fun c7 => ?_)
  · rw [if_pos c7] at E
    exact SXL_law_L2868 sl sc Q nm hSc hEnd _ hrc23 _ _ _ _  _ E
  · rw [if_neg c7] at E
    refine go_iconst (z := 0) (n := 2818) ⟨by decide, by decide⟩ dL_law_2817 rfl ?_
    exact absurd (Prod.mk.inj (Option.some.inj E)).1 (by decide)
noncomputable def XL_law_L2819 (F : Nat) (sl : Nat) (sc : Nat → Int) (rc23 : Option Nat → Option Nat → Option Nat → Int → HP → Option (Int × HP)) (l1 : Option Nat) (l2 : Option Nat) (l3 : Option Nat) (l4 : Int)  (h : HP) : Option (Int × HP) :=
  (xrc h l1 11 6).bind fun a3 =>
  xb (X11_image F a3 h) fun v1 h2 =>
  (xrc h2 l2 12 31).bind fun a6 =>
  xb (X12_image F a6 h2) fun v4 h5 =>
  XL_law_L2868 F sl sc rc23 l1 l2 l3 l4 h5
set_option maxRecDepth 100000 in
theorem SXL_law_L2819 {K : Ctx} {F : Nat} {hf : HP} (sl : Nat) (sc : Nat → Int) (Q : State → Prop) (nm : String) (hSc : ScK K sl sc) (hEnd : ∀ (pc : Nat) (lv : List (Nat × AV)), decode cL_law pc = .ok (.ireturn, 1) → Go K (ML_law nm) Q hf pc lv [vi 1] hf) (rc23 : Option Nat → Option Nat → Option Nat → Int → HP → Option (Int × HP)) (hrc23 : ∀ l1 l2 l3 l4 h, rc23 l1 l2 l3 l4 h = some (1, hf) → Go K (ML_law nm) Q hf 23 [(0, vr (some 4000000)), (1, vr l1), (2, vr l2), (3, vr l3), (4, vi l4)] [] h) (l1 : Option Nat) (l2 : Option Nat) (l3 : Option Nat) (l4 : Int)  (h : HP) (E : XL_law_L2819 F sl sc rc23 l1 l2 l3 l4 h = some (1, hf)) : Go K (ML_law nm) Q hf 2819 [(0, vr (some 4000000)), (1, vr l1), (2, vr l2), (3, vr l3), (4, vi l4)] [] h := by
  unfold XL_law_L2819 at E
  refine go_aload_n (j := 1) (n := 2820) rfl rfl dL_law_2819 rfl ?_
  replace E := Option.bind_eq_some_iff.mp E; obtain ⟨a3, ea3, E⟩ := E
  obtain ⟨fa3, ga3⟩ := xrc_some ea3
  replace E := xb_some E; obtain ⟨v1, h2, ev1, E⟩ := E
  refine go_callV (y := yX11_image) (n := 2823) (st := []) (as := []) (stk9 := []) (OX11_image ev1) yw_X11_image ci_11 ga3 wml_RL_286 wim_X11_image wse_X11_image (Nat.le_of_ble_eq_true rfl) rfl ⟨Nat.le_of_ble_eq_true rfl, Nat.le_of_ble_eq_true rfl⟩ (Nat.le_of_ble_eq_true rfl) dL_law_2820 rfl (by cases fa3; rfl) rfl ?_
  refine go_aload_n (j := 2) (n := 2824) rfl rfl dL_law_2823 rfl ?_
  replace E := Option.bind_eq_some_iff.mp E; obtain ⟨a6, ea6, E⟩ := E
  obtain ⟨fa6, ga6⟩ := xrc_some ea6
  replace E := xb_some E; obtain ⟨v4, h5, ev4, E⟩ := E
  refine go_callV (y := yX12_image) (n := 2827) (st := []) (as := []) (stk9 := []) (OX12_image ev4) yw_X12_image ci_12 ga6 wml_RL_289 wim_X12_image wse_X12_image (Nat.le_of_ble_eq_true rfl) rfl ⟨Nat.le_of_ble_eq_true rfl, Nat.le_of_ble_eq_true rfl⟩ (Nat.le_of_ble_eq_true rfl) dL_law_2824 rfl (by cases fa6; rfl) rfl ?_
  refine go_goto (tgt := 2868) dL_law_2827 rfl ?_
  exact SXL_law_L2868 sl sc Q nm hSc hEnd _ hrc23 _ _ _ _  _ E
noncomputable def XL_law_L2830 (F : Nat) (sl : Nat) (sc : Nat → Int) (rc23 : Option Nat → Option Nat → Option Nat → Int → HP → Option (Int × HP)) (l1 : Option Nat) (l2 : Option Nat) (l3 : Option Nat) (l4 : Int)  (h : HP) : Option (Int × HP) :=
  (xrc h l1 11 6).bind fun a3 =>
  xb (X11_back F a3 h) fun v1 h2 =>
  (xrc h2 l2 12 31).bind fun a6 =>
  xb (X12_back F a6 h2) fun v4 h5 =>
  if v1 = v4 then
    XL_law_L2868 F sl sc rc23 l1 l2 l3 l4 h5
  else
    some (0, h5)
set_option maxRecDepth 100000 in
theorem SXL_law_L2830 {K : Ctx} {F : Nat} {hf : HP} (sl : Nat) (sc : Nat → Int) (Q : State → Prop) (nm : String) (hSc : ScK K sl sc) (hEnd : ∀ (pc : Nat) (lv : List (Nat × AV)), decode cL_law pc = .ok (.ireturn, 1) → Go K (ML_law nm) Q hf pc lv [vi 1] hf) (rc23 : Option Nat → Option Nat → Option Nat → Int → HP → Option (Int × HP)) (hrc23 : ∀ l1 l2 l3 l4 h, rc23 l1 l2 l3 l4 h = some (1, hf) → Go K (ML_law nm) Q hf 23 [(0, vr (some 4000000)), (1, vr l1), (2, vr l2), (3, vr l3), (4, vi l4)] [] h) (l1 : Option Nat) (l2 : Option Nat) (l3 : Option Nat) (l4 : Int)  (h : HP) (E : XL_law_L2830 F sl sc rc23 l1 l2 l3 l4 h = some (1, hf)) : Go K (ML_law nm) Q hf 2830 [(0, vr (some 4000000)), (1, vr l1), (2, vr l2), (3, vr l3), (4, vi l4)] [] h := by
  unfold XL_law_L2830 at E
  refine go_aload_n (j := 1) (n := 2831) rfl rfl dL_law_2830 rfl ?_
  replace E := Option.bind_eq_some_iff.mp E; obtain ⟨a3, ea3, E⟩ := E
  obtain ⟨fa3, ga3⟩ := xrc_some ea3
  replace E := xb_some E; obtain ⟨v1, h2, ev1, E⟩ := E
  refine go_callV (y := yX11_back) (n := 2834) (st := []) (as := []) (stk9 := [vi v1]) (OX11_back ev1) yw_X11_back ci_11 ga3 wml_RL_290 wim_X11_back wse_X11_back (Nat.le_of_ble_eq_true rfl) rfl ⟨Nat.le_of_ble_eq_true rfl, Nat.le_of_ble_eq_true rfl⟩ (Nat.le_of_ble_eq_true rfl) dL_law_2831 rfl (by cases fa3; rfl) rfl ?_
  refine go_aload_n (j := 2) (n := 2835) rfl rfl dL_law_2834 rfl ?_
  replace E := Option.bind_eq_some_iff.mp E; obtain ⟨a6, ea6, E⟩ := E
  obtain ⟨fa6, ga6⟩ := xrc_some ea6
  replace E := xb_some E; obtain ⟨v4, h5, ev4, E⟩ := E
  refine go_callV (y := yX12_back) (n := 2838) (st := [vi v1]) (as := []) (stk9 := [vi v4, vi v1]) (OX12_back ev4) yw_X12_back ci_12 ga6 wml_RL_294 wim_X12_back wse_X12_back (Nat.le_of_ble_eq_true rfl) rfl ⟨Nat.le_of_ble_eq_true rfl, Nat.le_of_ble_eq_true rfl⟩ (Nat.le_of_ble_eq_true rfl) dL_law_2835 rfl (by cases fa6; rfl) rfl ?_
  refine go_icmp_eq (tgt := 2868) (n := 2841) dL_law_2838 rfl rfl (fun c7 => ?_) (fun c7 => ?_)
  · rw [if_pos c7] at E
    exact SXL_law_L2868 sl sc Q nm hSc hEnd _ hrc23 _ _ _ _  _ E
  · rw [if_neg c7] at E
    refine go_iconst (z := 0) (n := 2842) ⟨by decide, by decide⟩ dL_law_2841 rfl ?_
    exact absurd (Prod.mk.inj (Option.some.inj E)).1 (by decide)
noncomputable def XL_law_L2843 (F : Nat) (sl : Nat) (sc : Nat → Int) (rc23 : Option Nat → Option Nat → Option Nat → Int → HP → Option (Int × HP)) (l1 : Option Nat) (l2 : Option Nat) (l3 : Option Nat) (l4 : Int)  (h : HP) : Option (Int × HP) :=
  (xsc sl sc (w32 (l4 + 1))).bind fun v1 =>
  (xrc h l1 11 6).bind fun a4 =>
  xb (X11_count F a4 v1 h) fun v2 h3 =>
  (xsc sl sc (w32 (l4 + 1))).bind fun v5 =>
  (xrc h3 l2 12 31).bind fun a8 =>
  xb (X12_count F a8 v5 h3) fun v6 h7 =>
  if v2 = v6 then
    XL_law_L2868 F sl sc rc23 l1 l2 l3 l4 h7
  else
    some (0, h7)
set_option maxRecDepth 100000 in
theorem SXL_law_L2843 {K : Ctx} {F : Nat} {hf : HP} (sl : Nat) (sc : Nat → Int) (Q : State → Prop) (nm : String) (hSc : ScK K sl sc) (hEnd : ∀ (pc : Nat) (lv : List (Nat × AV)), decode cL_law pc = .ok (.ireturn, 1) → Go K (ML_law nm) Q hf pc lv [vi 1] hf) (rc23 : Option Nat → Option Nat → Option Nat → Int → HP → Option (Int × HP)) (hrc23 : ∀ l1 l2 l3 l4 h, rc23 l1 l2 l3 l4 h = some (1, hf) → Go K (ML_law nm) Q hf 23 [(0, vr (some 4000000)), (1, vr l1), (2, vr l2), (3, vr l3), (4, vi l4)] [] h) (l1 : Option Nat) (l2 : Option Nat) (l3 : Option Nat) (l4 : Int)  (h : HP) (E : XL_law_L2843 F sl sc rc23 l1 l2 l3 l4 h = some (1, hf)) : Go K (ML_law nm) Q hf 2843 [(0, vr (some 4000000)), (1, vr l1), (2, vr l2), (3, vr l3), (4, vi l4)] [] h := by
  unfold XL_law_L2843 at E
  refine go_aload_n (j := 1) (n := 2844) rfl rfl dL_law_2843 rfl ?_
  refine go_aload_n (j := 0) (n := 2845) rfl rfl dL_law_2844 rfl ?_
  refine go_iload (j := 4) (n := 2847) rfl dL_law_2845 rfl ?_
  refine go_iconst (z := 1) (n := 2848) ⟨by decide, by decide⟩ dL_law_2847 rfl ?_
  refine go_iadd (n := 2849) dL_law_2848 rfl ?_
  replace E := Option.bind_eq_some_iff.mp E; obtain ⟨v1, ev1, E⟩ := E
  refine go_sld (n := 2850) hSc ev1 dL_law_2849 rfl ?_
  replace E := Option.bind_eq_some_iff.mp E; obtain ⟨a4, ea4, E⟩ := E
  obtain ⟨fa4, ga4⟩ := xrc_some ea4
  replace E := xb_some E; obtain ⟨v2, h3, ev2, E⟩ := E
  refine go_callV (y := yX11_count) (n := 2853) (st := []) (as := [vi v1]) (stk9 := [vi v2]) (OX11_count ev2) yw_X11_count ci_11 ga4 wml_RL_295 wim_X11_count wse_X11_count (Nat.le_of_ble_eq_true rfl) rfl ⟨Nat.le_of_ble_eq_true rfl, Nat.le_of_ble_eq_true rfl⟩ (Nat.le_of_ble_eq_true rfl) dL_law_2850 rfl (by cases fa4; rfl) rfl ?_
  refine go_aload_n (j := 2) (n := 2854) rfl rfl dL_law_2853 rfl ?_
  refine go_aload_n (j := 0) (n := 2855) rfl rfl dL_law_2854 rfl ?_
  refine go_iload (j := 4) (n := 2857) rfl dL_law_2855 rfl ?_
  refine go_iconst (z := 1) (n := 2858) ⟨by decide, by decide⟩ dL_law_2857 rfl ?_
  refine go_iadd (n := 2859) dL_law_2858 rfl ?_
  replace E := Option.bind_eq_some_iff.mp E; obtain ⟨v5, ev5, E⟩ := E
  refine go_sld (n := 2860) hSc ev5 dL_law_2859 rfl ?_
  replace E := Option.bind_eq_some_iff.mp E; obtain ⟨a8, ea8, E⟩ := E
  obtain ⟨fa8, ga8⟩ := xrc_some ea8
  replace E := xb_some E; obtain ⟨v6, h7, ev6, E⟩ := E
  refine go_callV (y := yX12_count) (n := 2863) (st := [vi v2]) (as := [vi v5]) (stk9 := [vi v6, vi v2]) (OX12_count ev6) yw_X12_count ci_12 ga8 wml_RL_298 wim_X12_count wse_X12_count (Nat.le_of_ble_eq_true rfl) rfl ⟨Nat.le_of_ble_eq_true rfl, Nat.le_of_ble_eq_true rfl⟩ (Nat.le_of_ble_eq_true rfl) dL_law_2860 rfl (by cases fa8; rfl) rfl ?_
  refine go_icmp_eq (tgt := 2868) (n := 2866) dL_law_2863 rfl rfl (fun c9 => ?_) (fun c9 => ?_)
  · rw [if_pos c9] at E
    exact SXL_law_L2868 sl sc Q nm hSc hEnd _ hrc23 _ _ _ _  _ E
  · rw [if_neg c9] at E
    refine go_iconst (z := 0) (n := 2867) ⟨by decide, by decide⟩ dL_law_2866 rfl ?_
    exact absurd (Prod.mk.inj (Option.some.inj E)).1 (by decide)
noncomputable def XL_law_L23 (F : Nat) (sl : Nat) (sc : Nat → Int)  (k : Nat) : Option Nat → Option Nat → Option Nat → Int → HP → Option (Int × HP) :=
  Nat.rec (motive := fun _ => Option Nat → Option Nat → Option Nat → Int → HP → Option (Int × HP)) (fun _ _ _ _ _ => none) (fun _ rc23 l1 l2 l3 l4 h =>
    if (w32 ((sl : Int) - 6)) < l4 then
      some (1, h)
    else
      (xsc sl sc l4).bind fun v2 =>
      if xand v2 63 = 0 then
        XL_law_L236 F sl sc rc23 l1 l2 l3 l4 h
      else
        if xand v2 63 = 1 then
          XL_law_L309 F sl sc rc23 l1 l2 l3 l4 h
        else
          if xand v2 63 = 2 then
            XL_law_L334 F sl sc rc23 l1 l2 l3 l4 h
          else
            if xand v2 63 = 3 then
              XL_law_L382 F sl sc rc23 l1 l2 l3 l4 h
            else
              if xand v2 63 = 4 then
                XL_law_L430 F sl sc rc23 l1 l2 l3 l4 h
              else
                if xand v2 63 = 5 then
                  XL_law_L510 F sl sc rc23 l1 l2 l3 l4 h
                else
                  if xand v2 63 = 6 then
                    XL_law_L578 F sl sc rc23 l1 l2 l3 l4 h
                  else
                    if xand v2 63 = 7 then
                      XL_law_L634 F sl sc rc23 l1 l2 l3 l4 h
                    else
                      if xand v2 63 = 8 then
                        XL_law_L702 F sl sc rc23 l1 l2 l3 l4 h
                      else
                        if xand v2 63 = 9 then
                          XL_law_L770 F sl sc rc23 l1 l2 l3 l4 h
                        else
                          if xand v2 63 = 10 then
                            XL_law_L890 F sl sc rc23 l1 l2 l3 l4 h
                          else
                            if xand v2 63 = 11 then
                              XL_law_L903 F sl sc rc23 l1 l2 l3 l4 h
                            else
                              if xand v2 63 = 12 then
                                XL_law_L975 F sl sc rc23 l1 l2 l3 l4 h
                              else
                                if xand v2 63 = 13 then
                                  XL_law_L1058 F sl sc rc23 l1 l2 l3 l4 h
                                else
                                  if xand v2 63 = 14 then
                                    XL_law_L1114 F sl sc rc23 l1 l2 l3 l4 h
                                  else
                                    if xand v2 63 = 15 then
                                      XL_law_L1139 F sl sc rc23 l1 l2 l3 l4 h
                                    else
                                      if xand v2 63 = 16 then
                                        XL_law_L1164 F sl sc rc23 l1 l2 l3 l4 h
                                      else
                                        if xand v2 63 = 17 then
                                          XL_law_L1239 F sl sc rc23 l1 l2 l3 l4 h
                                        else
                                          if xand v2 63 = 18 then
                                            XL_law_L1302 F sl sc rc23 l1 l2 l3 l4 h
                                          else
                                            if xand v2 63 = 19 then
                                              XL_law_L1365 F sl sc rc23 l1 l2 l3 l4 h
                                            else
                                              if xand v2 63 = 20 then
                                                XL_law_L1421 F sl sc rc23 l1 l2 l3 l4 h
                                              else
                                                if xand v2 63 = 21 then
                                                  XL_law_L1477 F sl sc rc23 l1 l2 l3 l4 h
                                                else
                                                  if xand v2 63 = 22 then
                                                    XL_law_L1545 F sl sc rc23 l1 l2 l3 l4 h
                                                  else
                                                    if xand v2 63 = 23 then
                                                      XL_law_L1632 F sl sc rc23 l1 l2 l3 l4 h
                                                    else
                                                      if xand v2 63 = 24 then
                                                        XL_law_L1700 F sl sc rc23 l1 l2 l3 l4 h
                                                      else
                                                        if xand v2 63 = 25 then
                                                          XL_law_L1714 F sl sc rc23 l1 l2 l3 l4 h
                                                        else
                                                          if xand v2 63 = 26 then
                                                            XL_law_L1789 F sl sc rc23 l1 l2 l3 l4 h
                                                          else
                                                            if xand v2 63 = 27 then
                                                              XL_law_L1893 F sl sc rc23 l1 l2 l3 l4 h
                                                            else
                                                              if xand v2 63 = 28 then
                                                                XL_law_L1973 F sl sc rc23 l1 l2 l3 l4 h
                                                              else
                                                                if xand v2 63 = 29 then
                                                                  XL_law_L2048 F sl sc rc23 l1 l2 l3 l4 h
                                                                else
                                                                  if xand v2 63 = 30 then
                                                                    XL_law_L2132 F sl sc rc23 l1 l2 l3 l4 h
                                                                  else
                                                                    if xand v2 63 = 31 then
                                                                      XL_law_L2216 F sl sc rc23 l1 l2 l3 l4 h
                                                                    else
                                                                      if xand v2 63 = 32 then
                                                                        XL_law_L2258 F sl sc rc23 l1 l2 l3 l4 h
                                                                      else
                                                                        if xand v2 63 = 33 then
                                                                          XL_law_L2313 F sl sc rc23 l1 l2 l3 l4 h
                                                                        else
                                                                          if xand v2 63 = 34 then
                                                                            XL_law_L2381 F sl sc rc23 l1 l2 l3 l4 h
                                                                          else
                                                                            if xand v2 63 = 35 then
                                                                              XL_law_L2468 F sl sc rc23 l1 l2 l3 l4 h
                                                                            else
                                                                              if xand v2 63 = 36 then
                                                                                XL_law_L2536 F sl sc rc23 l1 l2 l3 l4 h
                                                                              else
                                                                                if xand v2 63 = 37 then
                                                                                  XL_law_L2549 F sl sc rc23 l1 l2 l3 l4 h
                                                                                else
                                                                                  if xand v2 63 = 38 then
                                                                                    XL_law_L2617 F sl sc rc23 l1 l2 l3 l4 h
                                                                                  else
                                                                                    if xand v2 63 = 39 then
                                                                                      XL_law_L2697 F sl sc rc23 l1 l2 l3 l4 h
                                                                                    else
                                                                                      if xand v2 63 = 40 then
                                                                                        XL_law_L2738 F sl sc rc23 l1 l2 l3 l4 h
                                                                                      else
                                                                                        if xand v2 63 = 41 then
                                                                                          XL_law_L2806 F sl sc rc23 l1 l2 l3 l4 h
                                                                                        else
                                                                                          if xand v2 63 = 42 then
                                                                                            XL_law_L2819 F sl sc rc23 l1 l2 l3 l4 h
                                                                                          else
                                                                                            if xand v2 63 = 43 then
                                                                                              XL_law_L2830 F sl sc rc23 l1 l2 l3 l4 h
                                                                                            else
                                                                                              if xand v2 63 = 44 then
                                                                                                XL_law_L2843 F sl sc rc23 l1 l2 l3 l4 h
                                                                                              else
                                                                                                XL_law_L2868 F sl sc rc23 l1 l2 l3 l4 h) k
theorem XL_law_L23_s (F : Nat) (sl : Nat) (sc : Nat → Int)  (k : Nat) (l1 : Option Nat) (l2 : Option Nat) (l3 : Option Nat) (l4 : Int)  (h : HP) : XL_law_L23 F sl sc  (k + 1) l1 l2 l3 l4 h =
    if (w32 ((sl : Int) - 6)) < l4 then
      some (1, h)
    else
      (xsc sl sc l4).bind fun v2 =>
      if xand v2 63 = 0 then
        XL_law_L236 F sl sc (XL_law_L23 F sl sc k) l1 l2 l3 l4 h
      else
        if xand v2 63 = 1 then
          XL_law_L309 F sl sc (XL_law_L23 F sl sc k) l1 l2 l3 l4 h
        else
          if xand v2 63 = 2 then
            XL_law_L334 F sl sc (XL_law_L23 F sl sc k) l1 l2 l3 l4 h
          else
            if xand v2 63 = 3 then
              XL_law_L382 F sl sc (XL_law_L23 F sl sc k) l1 l2 l3 l4 h
            else
              if xand v2 63 = 4 then
                XL_law_L430 F sl sc (XL_law_L23 F sl sc k) l1 l2 l3 l4 h
              else
                if xand v2 63 = 5 then
                  XL_law_L510 F sl sc (XL_law_L23 F sl sc k) l1 l2 l3 l4 h
                else
                  if xand v2 63 = 6 then
                    XL_law_L578 F sl sc (XL_law_L23 F sl sc k) l1 l2 l3 l4 h
                  else
                    if xand v2 63 = 7 then
                      XL_law_L634 F sl sc (XL_law_L23 F sl sc k) l1 l2 l3 l4 h
                    else
                      if xand v2 63 = 8 then
                        XL_law_L702 F sl sc (XL_law_L23 F sl sc k) l1 l2 l3 l4 h
                      else
                        if xand v2 63 = 9 then
                          XL_law_L770 F sl sc (XL_law_L23 F sl sc k) l1 l2 l3 l4 h
                        else
                          if xand v2 63 = 10 then
                            XL_law_L890 F sl sc (XL_law_L23 F sl sc k) l1 l2 l3 l4 h
                          else
                            if xand v2 63 = 11 then
                              XL_law_L903 F sl sc (XL_law_L23 F sl sc k) l1 l2 l3 l4 h
                            else
                              if xand v2 63 = 12 then
                                XL_law_L975 F sl sc (XL_law_L23 F sl sc k) l1 l2 l3 l4 h
                              else
                                if xand v2 63 = 13 then
                                  XL_law_L1058 F sl sc (XL_law_L23 F sl sc k) l1 l2 l3 l4 h
                                else
                                  if xand v2 63 = 14 then
                                    XL_law_L1114 F sl sc (XL_law_L23 F sl sc k) l1 l2 l3 l4 h
                                  else
                                    if xand v2 63 = 15 then
                                      XL_law_L1139 F sl sc (XL_law_L23 F sl sc k) l1 l2 l3 l4 h
                                    else
                                      if xand v2 63 = 16 then
                                        XL_law_L1164 F sl sc (XL_law_L23 F sl sc k) l1 l2 l3 l4 h
                                      else
                                        if xand v2 63 = 17 then
                                          XL_law_L1239 F sl sc (XL_law_L23 F sl sc k) l1 l2 l3 l4 h
                                        else
                                          if xand v2 63 = 18 then
                                            XL_law_L1302 F sl sc (XL_law_L23 F sl sc k) l1 l2 l3 l4 h
                                          else
                                            if xand v2 63 = 19 then
                                              XL_law_L1365 F sl sc (XL_law_L23 F sl sc k) l1 l2 l3 l4 h
                                            else
                                              if xand v2 63 = 20 then
                                                XL_law_L1421 F sl sc (XL_law_L23 F sl sc k) l1 l2 l3 l4 h
                                              else
                                                if xand v2 63 = 21 then
                                                  XL_law_L1477 F sl sc (XL_law_L23 F sl sc k) l1 l2 l3 l4 h
                                                else
                                                  if xand v2 63 = 22 then
                                                    XL_law_L1545 F sl sc (XL_law_L23 F sl sc k) l1 l2 l3 l4 h
                                                  else
                                                    if xand v2 63 = 23 then
                                                      XL_law_L1632 F sl sc (XL_law_L23 F sl sc k) l1 l2 l3 l4 h
                                                    else
                                                      if xand v2 63 = 24 then
                                                        XL_law_L1700 F sl sc (XL_law_L23 F sl sc k) l1 l2 l3 l4 h
                                                      else
                                                        if xand v2 63 = 25 then
                                                          XL_law_L1714 F sl sc (XL_law_L23 F sl sc k) l1 l2 l3 l4 h
                                                        else
                                                          if xand v2 63 = 26 then
                                                            XL_law_L1789 F sl sc (XL_law_L23 F sl sc k) l1 l2 l3 l4 h
                                                          else
                                                            if xand v2 63 = 27 then
                                                              XL_law_L1893 F sl sc (XL_law_L23 F sl sc k) l1 l2 l3 l4 h
                                                            else
                                                              if xand v2 63 = 28 then
                                                                XL_law_L1973 F sl sc (XL_law_L23 F sl sc k) l1 l2 l3 l4 h
                                                              else
                                                                if xand v2 63 = 29 then
                                                                  XL_law_L2048 F sl sc (XL_law_L23 F sl sc k) l1 l2 l3 l4 h
                                                                else
                                                                  if xand v2 63 = 30 then
                                                                    XL_law_L2132 F sl sc (XL_law_L23 F sl sc k) l1 l2 l3 l4 h
                                                                  else
                                                                    if xand v2 63 = 31 then
                                                                      XL_law_L2216 F sl sc (XL_law_L23 F sl sc k) l1 l2 l3 l4 h
                                                                    else
                                                                      if xand v2 63 = 32 then
                                                                        XL_law_L2258 F sl sc (XL_law_L23 F sl sc k) l1 l2 l3 l4 h
                                                                      else
                                                                        if xand v2 63 = 33 then
                                                                          XL_law_L2313 F sl sc (XL_law_L23 F sl sc k) l1 l2 l3 l4 h
                                                                        else
                                                                          if xand v2 63 = 34 then
                                                                            XL_law_L2381 F sl sc (XL_law_L23 F sl sc k) l1 l2 l3 l4 h
                                                                          else
                                                                            if xand v2 63 = 35 then
                                                                              XL_law_L2468 F sl sc (XL_law_L23 F sl sc k) l1 l2 l3 l4 h
                                                                            else
                                                                              if xand v2 63 = 36 then
                                                                                XL_law_L2536 F sl sc (XL_law_L23 F sl sc k) l1 l2 l3 l4 h
                                                                              else
                                                                                if xand v2 63 = 37 then
                                                                                  XL_law_L2549 F sl sc (XL_law_L23 F sl sc k) l1 l2 l3 l4 h
                                                                                else
                                                                                  if xand v2 63 = 38 then
                                                                                    XL_law_L2617 F sl sc (XL_law_L23 F sl sc k) l1 l2 l3 l4 h
                                                                                  else
                                                                                    if xand v2 63 = 39 then
                                                                                      XL_law_L2697 F sl sc (XL_law_L23 F sl sc k) l1 l2 l3 l4 h
                                                                                    else
                                                                                      if xand v2 63 = 40 then
                                                                                        XL_law_L2738 F sl sc (XL_law_L23 F sl sc k) l1 l2 l3 l4 h
                                                                                      else
                                                                                        if xand v2 63 = 41 then
                                                                                          XL_law_L2806 F sl sc (XL_law_L23 F sl sc k) l1 l2 l3 l4 h
                                                                                        else
                                                                                          if xand v2 63 = 42 then
                                                                                            XL_law_L2819 F sl sc (XL_law_L23 F sl sc k) l1 l2 l3 l4 h
                                                                                          else
                                                                                            if xand v2 63 = 43 then
                                                                                              XL_law_L2830 F sl sc (XL_law_L23 F sl sc k) l1 l2 l3 l4 h
                                                                                            else
                                                                                              if xand v2 63 = 44 then
                                                                                                XL_law_L2843 F sl sc (XL_law_L23 F sl sc k) l1 l2 l3 l4 h
                                                                                              else
                                                                                                XL_law_L2868 F sl sc (XL_law_L23 F sl sc k) l1 l2 l3 l4 h := rfl
set_option maxRecDepth 100000 in
theorem SXL_law_L23 {K : Ctx} {F : Nat} {hf : HP} (sl : Nat) (sc : Nat → Int) (Q : State → Prop) (nm : String) (hSc : ScK K sl sc) (hEnd : ∀ (pc : Nat) (lv : List (Nat × AV)), decode cL_law pc = .ok (.ireturn, 1) → Go K (ML_law nm) Q hf pc lv [vi 1] hf)   : ∀ (k : Nat) (l1 : Option Nat) (l2 : Option Nat) (l3 : Option Nat) (l4 : Int)  (h : HP), XL_law_L23 F sl sc  k l1 l2 l3 l4 h = some (1, hf) → Go K (ML_law nm) Q hf 23 [(0, vr (some 4000000)), (1, vr l1), (2, vr l2), (3, vr l3), (4, vi l4)] [] h := by
  intro k
  induction k with
  | zero => intro l1 l2 l3 l4 h E; exact nomatch E
  | succ k hrc23 =>
    intro l1 l2 l3 l4 h E
    rw [XL_law_L23_s] at E
    refine go_iload (j := 4) (n := 25) rfl dL_law_23 rfl ?_
    refine go_aload_n (j := 0) (n := 26) rfl rfl dL_law_25 rfl ?_
    refine go_slen (n := 27) hSc dL_law_26 rfl ?_
    refine go_bipush (z := 6) (n := 29) ⟨by decide, by decide⟩ dL_law_27 rfl ?_
    refine go_isub (n := 30) dL_law_29 rfl ?_
    refine go_icmp_gt (tgt := 2874) (n := 33) dL_law_30 rfl rfl (fun c1 => ?_) (fun c1 => ?_)
    · rw [if_pos c1] at E
      refine go_iconst (z := 1) (n := 2875) ⟨by decide, by decide⟩ dL_law_2874 rfl ?_
      cases E
      exact hEnd _ _ dL_law_2875
    · rw [if_neg c1] at E
      refine go_aload_n (j := 0) (n := 34) rfl rfl dL_law_33 rfl ?_
      refine go_iload (j := 4) (n := 36) rfl dL_law_34 rfl ?_
      replace E := Option.bind_eq_some_iff.mp E; obtain ⟨v2, ev2, E⟩ := E
      refine go_sld (n := 37) hSc ev2 dL_law_36 rfl ?_
      refine go_bipush (z := 63) (n := 39) ⟨by decide, by decide⟩ dL_law_37 rfl ?_
      refine go_iand (n := 40) dL_law_39 rfl ?_
      by_cases c3 : xand v2 63 = 0
      · rw [if_pos c3] at E
        refine go_tableIn (tgt := 236) dL_law_40 (by omega) (by omega) (by rw [c3]; rfl) rfl ?_
        exact SXL_law_L236 sl sc Q nm hSc hEnd _ hrc23 _ _ _ _  _ E
      rw [if_neg c3] at E
      by_cases c4 : xand v2 63 = 1
      · rw [if_pos c4] at E
        refine go_tableIn (tgt := 309) dL_law_40 (by omega) (by omega) (by rw [c4]; rfl) rfl ?_
        exact SXL_law_L309 sl sc Q nm hSc hEnd _ hrc23 _ _ _ _  _ E
      rw [if_neg c4] at E
      by_cases c5 : xand v2 63 = 2
      · rw [if_pos c5] at E
        refine go_tableIn (tgt := 334) dL_law_40 (by omega) (by omega) (by rw [c5]; rfl) rfl ?_
        exact SXL_law_L334 sl sc Q nm hSc hEnd _ hrc23 _ _ _ _  _ E
      rw [if_neg c5] at E
      by_cases c6 : xand v2 63 = 3
      · rw [if_pos c6] at E
        refine go_tableIn (tgt := 382) dL_law_40 (by omega) (by omega) (by rw [c6]; rfl) rfl ?_
        exact SXL_law_L382 sl sc Q nm hSc hEnd _ hrc23 _ _ _ _  _ E
      rw [if_neg c6] at E
      by_cases c7 : xand v2 63 = 4
      · rw [if_pos c7] at E
        refine go_tableIn (tgt := 430) dL_law_40 (by omega) (by omega) (by rw [c7]; rfl) rfl ?_
        exact SXL_law_L430 sl sc Q nm hSc hEnd _ hrc23 _ _ _ _  _ E
      rw [if_neg c7] at E
      by_cases c8 : xand v2 63 = 5
      · rw [if_pos c8] at E
        refine go_tableIn (tgt := 510) dL_law_40 (by omega) (by omega) (by rw [c8]; rfl) rfl ?_
        exact SXL_law_L510 sl sc Q nm hSc hEnd _ hrc23 _ _ _ _  _ E
      rw [if_neg c8] at E
      by_cases c9 : xand v2 63 = 6
      · rw [if_pos c9] at E
        refine go_tableIn (tgt := 578) dL_law_40 (by omega) (by omega) (by rw [c9]; rfl) rfl ?_
        exact SXL_law_L578 sl sc Q nm hSc hEnd _ hrc23 _ _ _ _  _ E
      rw [if_neg c9] at E
      by_cases c10 : xand v2 63 = 7
      · rw [if_pos c10] at E
        refine go_tableIn (tgt := 634) dL_law_40 (by omega) (by omega) (by rw [c10]; rfl) rfl ?_
        exact SXL_law_L634 sl sc Q nm hSc hEnd _ hrc23 _ _ _ _  _ E
      rw [if_neg c10] at E
      by_cases c11 : xand v2 63 = 8
      · rw [if_pos c11] at E
        refine go_tableIn (tgt := 702) dL_law_40 (by omega) (by omega) (by rw [c11]; rfl) rfl ?_
        exact SXL_law_L702 sl sc Q nm hSc hEnd _ hrc23 _ _ _ _  _ E
      rw [if_neg c11] at E
      by_cases c12 : xand v2 63 = 9
      · rw [if_pos c12] at E
        refine go_tableIn (tgt := 770) dL_law_40 (by omega) (by omega) (by rw [c12]; rfl) rfl ?_
        exact SXL_law_L770 sl sc Q nm hSc hEnd _ hrc23 _ _ _ _  _ E
      rw [if_neg c12] at E
      by_cases c13 : xand v2 63 = 10
      · rw [if_pos c13] at E
        refine go_tableIn (tgt := 890) dL_law_40 (by omega) (by omega) (by rw [c13]; rfl) rfl ?_
        exact SXL_law_L890 sl sc Q nm hSc hEnd _ hrc23 _ _ _ _  _ E
      rw [if_neg c13] at E
      by_cases c14 : xand v2 63 = 11
      · rw [if_pos c14] at E
        refine go_tableIn (tgt := 903) dL_law_40 (by omega) (by omega) (by rw [c14]; rfl) rfl ?_
        exact SXL_law_L903 sl sc Q nm hSc hEnd _ hrc23 _ _ _ _  _ E
      rw [if_neg c14] at E
      by_cases c15 : xand v2 63 = 12
      · rw [if_pos c15] at E
        refine go_tableIn (tgt := 975) dL_law_40 (by omega) (by omega) (by rw [c15]; rfl) rfl ?_
        exact SXL_law_L975 sl sc Q nm hSc hEnd _ hrc23 _ _ _ _  _ E
      rw [if_neg c15] at E
      by_cases c16 : xand v2 63 = 13
      · rw [if_pos c16] at E
        refine go_tableIn (tgt := 1058) dL_law_40 (by omega) (by omega) (by rw [c16]; rfl) rfl ?_
        exact SXL_law_L1058 sl sc Q nm hSc hEnd _ hrc23 _ _ _ _  _ E
      rw [if_neg c16] at E
      by_cases c17 : xand v2 63 = 14
      · rw [if_pos c17] at E
        refine go_tableIn (tgt := 1114) dL_law_40 (by omega) (by omega) (by rw [c17]; rfl) rfl ?_
        exact SXL_law_L1114 sl sc Q nm hSc hEnd _ hrc23 _ _ _ _  _ E
      rw [if_neg c17] at E
      by_cases c18 : xand v2 63 = 15
      · rw [if_pos c18] at E
        refine go_tableIn (tgt := 1139) dL_law_40 (by omega) (by omega) (by rw [c18]; rfl) rfl ?_
        exact SXL_law_L1139 sl sc Q nm hSc hEnd _ hrc23 _ _ _ _  _ E
      rw [if_neg c18] at E
      by_cases c19 : xand v2 63 = 16
      · rw [if_pos c19] at E
        refine go_tableIn (tgt := 1164) dL_law_40 (by omega) (by omega) (by rw [c19]; rfl) rfl ?_
        exact SXL_law_L1164 sl sc Q nm hSc hEnd _ hrc23 _ _ _ _  _ E
      rw [if_neg c19] at E
      by_cases c20 : xand v2 63 = 17
      · rw [if_pos c20] at E
        refine go_tableIn (tgt := 1239) dL_law_40 (by omega) (by omega) (by rw [c20]; rfl) rfl ?_
        exact SXL_law_L1239 sl sc Q nm hSc hEnd _ hrc23 _ _ _ _  _ E
      rw [if_neg c20] at E
      by_cases c21 : xand v2 63 = 18
      · rw [if_pos c21] at E
        refine go_tableIn (tgt := 1302) dL_law_40 (by omega) (by omega) (by rw [c21]; rfl) rfl ?_
        exact SXL_law_L1302 sl sc Q nm hSc hEnd _ hrc23 _ _ _ _  _ E
      rw [if_neg c21] at E
      by_cases c22 : xand v2 63 = 19
      · rw [if_pos c22] at E
        refine go_tableIn (tgt := 1365) dL_law_40 (by omega) (by omega) (by rw [c22]; rfl) rfl ?_
        exact SXL_law_L1365 sl sc Q nm hSc hEnd _ hrc23 _ _ _ _  _ E
      rw [if_neg c22] at E
      by_cases c23 : xand v2 63 = 20
      · rw [if_pos c23] at E
        refine go_tableIn (tgt := 1421) dL_law_40 (by omega) (by omega) (by rw [c23]; rfl) rfl ?_
        exact SXL_law_L1421 sl sc Q nm hSc hEnd _ hrc23 _ _ _ _  _ E
      rw [if_neg c23] at E
      by_cases c24 : xand v2 63 = 21
      · rw [if_pos c24] at E
        refine go_tableIn (tgt := 1477) dL_law_40 (by omega) (by omega) (by rw [c24]; rfl) rfl ?_
        exact SXL_law_L1477 sl sc Q nm hSc hEnd _ hrc23 _ _ _ _  _ E
      rw [if_neg c24] at E
      by_cases c25 : xand v2 63 = 22
      · rw [if_pos c25] at E
        refine go_tableIn (tgt := 1545) dL_law_40 (by omega) (by omega) (by rw [c25]; rfl) rfl ?_
        exact SXL_law_L1545 sl sc Q nm hSc hEnd _ hrc23 _ _ _ _  _ E
      rw [if_neg c25] at E
      by_cases c26 : xand v2 63 = 23
      · rw [if_pos c26] at E
        refine go_tableIn (tgt := 1632) dL_law_40 (by omega) (by omega) (by rw [c26]; rfl) rfl ?_
        exact SXL_law_L1632 sl sc Q nm hSc hEnd _ hrc23 _ _ _ _  _ E
      rw [if_neg c26] at E
      by_cases c27 : xand v2 63 = 24
      · rw [if_pos c27] at E
        refine go_tableIn (tgt := 1700) dL_law_40 (by omega) (by omega) (by rw [c27]; rfl) rfl ?_
        exact SXL_law_L1700 sl sc Q nm hSc hEnd _ hrc23 _ _ _ _  _ E
      rw [if_neg c27] at E
      by_cases c28 : xand v2 63 = 25
      · rw [if_pos c28] at E
        refine go_tableIn (tgt := 1714) dL_law_40 (by omega) (by omega) (by rw [c28]; rfl) rfl ?_
        exact SXL_law_L1714 sl sc Q nm hSc hEnd _ hrc23 _ _ _ _  _ E
      rw [if_neg c28] at E
      by_cases c29 : xand v2 63 = 26
      · rw [if_pos c29] at E
        refine go_tableIn (tgt := 1789) dL_law_40 (by omega) (by omega) (by rw [c29]; rfl) rfl ?_
        exact SXL_law_L1789 sl sc Q nm hSc hEnd _ hrc23 _ _ _ _  _ E
      rw [if_neg c29] at E
      by_cases c30 : xand v2 63 = 27
      · rw [if_pos c30] at E
        refine go_tableIn (tgt := 1893) dL_law_40 (by omega) (by omega) (by rw [c30]; rfl) rfl ?_
        exact SXL_law_L1893 sl sc Q nm hSc hEnd _ hrc23 _ _ _ _  _ E
      rw [if_neg c30] at E
      by_cases c31 : xand v2 63 = 28
      · rw [if_pos c31] at E
        refine go_tableIn (tgt := 1973) dL_law_40 (by omega) (by omega) (by rw [c31]; rfl) rfl ?_
        exact SXL_law_L1973 sl sc Q nm hSc hEnd _ hrc23 _ _ _ _  _ E
      rw [if_neg c31] at E
      by_cases c32 : xand v2 63 = 29
      · rw [if_pos c32] at E
        refine go_tableIn (tgt := 2048) dL_law_40 (by omega) (by omega) (by rw [c32]; rfl) rfl ?_
        exact SXL_law_L2048 sl sc Q nm hSc hEnd _ hrc23 _ _ _ _  _ E
      rw [if_neg c32] at E
      by_cases c33 : xand v2 63 = 30
      · rw [if_pos c33] at E
        refine go_tableIn (tgt := 2132) dL_law_40 (by omega) (by omega) (by rw [c33]; rfl) rfl ?_
        exact SXL_law_L2132 sl sc Q nm hSc hEnd _ hrc23 _ _ _ _  _ E
      rw [if_neg c33] at E
      by_cases c34 : xand v2 63 = 31
      · rw [if_pos c34] at E
        refine go_tableIn (tgt := 2216) dL_law_40 (by omega) (by omega) (by rw [c34]; rfl) rfl ?_
        exact SXL_law_L2216 sl sc Q nm hSc hEnd _ hrc23 _ _ _ _  _ E
      rw [if_neg c34] at E
      by_cases c35 : xand v2 63 = 32
      · rw [if_pos c35] at E
        refine go_tableIn (tgt := 2258) dL_law_40 (by omega) (by omega) (by rw [c35]; rfl) rfl ?_
        exact SXL_law_L2258 sl sc Q nm hSc hEnd _ hrc23 _ _ _ _  _ E
      rw [if_neg c35] at E
      by_cases c36 : xand v2 63 = 33
      · rw [if_pos c36] at E
        refine go_tableIn (tgt := 2313) dL_law_40 (by omega) (by omega) (by rw [c36]; rfl) rfl ?_
        exact SXL_law_L2313 sl sc Q nm hSc hEnd _ hrc23 _ _ _ _  _ E
      rw [if_neg c36] at E
      by_cases c37 : xand v2 63 = 34
      · rw [if_pos c37] at E
        refine go_tableIn (tgt := 2381) dL_law_40 (by omega) (by omega) (by rw [c37]; rfl) rfl ?_
        exact SXL_law_L2381 sl sc Q nm hSc hEnd _ hrc23 _ _ _ _  _ E
      rw [if_neg c37] at E
      by_cases c38 : xand v2 63 = 35
      · rw [if_pos c38] at E
        refine go_tableIn (tgt := 2468) dL_law_40 (by omega) (by omega) (by rw [c38]; rfl) rfl ?_
        exact SXL_law_L2468 sl sc Q nm hSc hEnd _ hrc23 _ _ _ _  _ E
      rw [if_neg c38] at E
      by_cases c39 : xand v2 63 = 36
      · rw [if_pos c39] at E
        refine go_tableIn (tgt := 2536) dL_law_40 (by omega) (by omega) (by rw [c39]; rfl) rfl ?_
        exact SXL_law_L2536 sl sc Q nm hSc hEnd _ hrc23 _ _ _ _  _ E
      rw [if_neg c39] at E
      by_cases c40 : xand v2 63 = 37
      · rw [if_pos c40] at E
        refine go_tableIn (tgt := 2549) dL_law_40 (by omega) (by omega) (by rw [c40]; rfl) rfl ?_
        exact SXL_law_L2549 sl sc Q nm hSc hEnd _ hrc23 _ _ _ _  _ E
      rw [if_neg c40] at E
      by_cases c41 : xand v2 63 = 38
      · rw [if_pos c41] at E
        refine go_tableIn (tgt := 2617) dL_law_40 (by omega) (by omega) (by rw [c41]; rfl) rfl ?_
        exact SXL_law_L2617 sl sc Q nm hSc hEnd _ hrc23 _ _ _ _  _ E
      rw [if_neg c41] at E
      by_cases c42 : xand v2 63 = 39
      · rw [if_pos c42] at E
        refine go_tableIn (tgt := 2697) dL_law_40 (by omega) (by omega) (by rw [c42]; rfl) rfl ?_
        exact SXL_law_L2697 sl sc Q nm hSc hEnd _ hrc23 _ _ _ _  _ E
      rw [if_neg c42] at E
      by_cases c43 : xand v2 63 = 40
      · rw [if_pos c43] at E
        refine go_tableIn (tgt := 2738) dL_law_40 (by omega) (by omega) (by rw [c43]; rfl) rfl ?_
        exact SXL_law_L2738 sl sc Q nm hSc hEnd _ hrc23 _ _ _ _  _ E
      rw [if_neg c43] at E
      by_cases c44 : xand v2 63 = 41
      · rw [if_pos c44] at E
        refine go_tableIn (tgt := 2806) dL_law_40 (by omega) (by omega) (by rw [c44]; rfl) rfl ?_
        exact SXL_law_L2806 sl sc Q nm hSc hEnd _ hrc23 _ _ _ _  _ E
      rw [if_neg c44] at E
      by_cases c45 : xand v2 63 = 42
      · rw [if_pos c45] at E
        refine go_tableIn (tgt := 2819) dL_law_40 (by omega) (by omega) (by rw [c45]; rfl) rfl ?_
        exact SXL_law_L2819 sl sc Q nm hSc hEnd _ hrc23 _ _ _ _  _ E
      rw [if_neg c45] at E
      by_cases c46 : xand v2 63 = 43
      · rw [if_pos c46] at E
        refine go_tableIn (tgt := 2830) dL_law_40 (by omega) (by omega) (by rw [c46]; rfl) rfl ?_
        exact SXL_law_L2830 sl sc Q nm hSc hEnd _ hrc23 _ _ _ _  _ E
      rw [if_neg c46] at E
      by_cases c47 : xand v2 63 = 44
      · rw [if_pos c47] at E
        refine go_tableIn (tgt := 2843) dL_law_40 (by omega) (by omega) (by rw [c47]; rfl) rfl ?_
        exact SXL_law_L2843 sl sc Q nm hSc hEnd _ hrc23 _ _ _ _  _ E
      rw [if_neg c47] at E
      refine go_tableOut (tgt := 2868) dL_law_40 (by omega) rfl ?_
      exact SXL_law_L2868 sl sc Q nm hSc hEnd _ hrc23 _ _ _ _  _ E
noncomputable def XL_law (F : Nat) (sl : Nat) (sc : Nat → Int)    (h : HP) : Option (Int × HP) :=
  (xnw h 11 6).bind fun h1 =>
  xb (X11_init F (gn h1) h1) fun v2 h3 =>
  (xnw h3 12 31).bind fun h4 =>
  xb (X12_init F (gn h4) h4) fun v5 h6 =>
  (xna h6 101 1).bind fun h7 =>
  XL_law_L23 F sl sc F (some (gn h1)) (some (gn h4)) (some (gn h7)) 0 h7
set_option maxRecDepth 100000 in
theorem SXL_law {K : Ctx} {F : Nat} {hf : HP} (sl : Nat) (sc : Nat → Int) (Q : State → Prop) (nm : String) (hSc : ScK K sl sc) (hEnd : ∀ (pc : Nat) (lv : List (Nat × AV)), decode cL_law pc = .ok (.ireturn, 1) → Go K (ML_law nm) Q hf pc lv [vi 1] hf)     (h : HP) (E : XL_law F sl sc   h = some (1, hf)) : Go K (ML_law nm) Q hf 0 [(0, vr (some 4000000))] [] h := by
  unfold XL_law at E
  replace E := Option.bind_eq_some_iff.mp E; obtain ⟨h1, eh1, E⟩ := E
  refine go_new (n := 3) eh1 nl_RL_8 dL_law_0 rfl ?_
  refine go_dup (n := 4) rfl dL_law_3 rfl ?_
  replace E := xb_some E; obtain ⟨v2, h3, ev2, E⟩ := E
  refine go_callI (y := yX11_init) (n := 7) (st := [vr (some (gn h1))]) (as := []) (OX11_init ev2) yw_X11_init wml_RL_128 wim_X11_init rfl (Nat.le_of_ble_eq_true rfl) rfl ⟨Nat.le_of_ble_eq_true rfl, Nat.le_of_ble_eq_true rfl⟩ (Nat.le_of_ble_eq_true rfl) dL_law_4 rfl rfl ?_
  refine go_astore_n (n := 8) (lv' := [(1, vr (some (gn h1))), (0, vr (some 4000000))]) rfl dL_law_7 rfl (Nat.le_of_ble_eq_true rfl) rfl ?_
  replace E := Option.bind_eq_some_iff.mp E; obtain ⟨h4, eh4, E⟩ := E
  refine go_new (n := 11) eh4 nl_RL_129 dL_law_8 rfl ?_
  refine go_dup (n := 12) rfl dL_law_11 rfl ?_
  replace E := xb_some E; obtain ⟨v5, h6, ev5, E⟩ := E
  refine go_callI (y := yX12_init) (n := 15) (st := [vr (some (gn h4))]) (as := []) (OX12_init ev5) yw_X12_init wml_RL_131 wim_X12_init rfl (Nat.le_of_ble_eq_true rfl) rfl ⟨Nat.le_of_ble_eq_true rfl, Nat.le_of_ble_eq_true rfl⟩ (Nat.le_of_ble_eq_true rfl) dL_law_12 rfl rfl ?_
  refine go_astore_n (n := 16) (lv' := [(2, vr (some (gn h4))), (1, vr (some (gn h1))), (0, vr (some 4000000))]) rfl dL_law_15 rfl (Nat.le_of_ble_eq_true rfl) rfl ?_
  refine go_iconst (z := 1) (n := 17) ⟨by decide, by decide⟩ dL_law_16 rfl ?_
  replace E := Option.bind_eq_some_iff.mp E; obtain ⟨h7, eh7, E⟩ := E
  refine go_newJ (n := 19) eh7 dL_law_17 rfl wa_long ?_
  refine go_astore_n (n := 20) (lv' := [(3, vr (some (gn h7))), (2, vr (some (gn h4))), (1, vr (some (gn h1))), (0, vr (some 4000000))]) rfl dL_law_19 rfl (Nat.le_of_ble_eq_true rfl) rfl ?_
  refine go_iconst (z := 0) (n := 21) ⟨by decide, by decide⟩ dL_law_20 rfl ?_
  refine go_istore (n := 23) (lv' := [(4, vi 0), (3, vr (some (gn h7))), (2, vr (some (gn h4))), (1, vr (some (gn h1))), (0, vr (some 4000000))]) dL_law_21 rfl (Nat.le_of_ble_eq_true rfl) rfl ?_
  refine go_pick (lv' := [(0, vr (some 4000000)), (1, vr (some (gn h1))), (2, vr (some (gn h4))), (3, vr (some (gn h7))), (4, vi 0)]) [4, 3, 2, 1, 0] rfl ?_
  exact SXL_law_L23 sl sc Q nm hSc hEnd   F _ _ _ _ _ E
