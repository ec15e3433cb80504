theorem jw_952 : Cond.methodLink RL 77 yL_feed ∈ jGL := jmem 952 (by decide +kernel) rfl
theorem jw_953 : Cond.static yL_feed ∈ jGL := jmem 953 (by decide +kernel) rfl
theorem jw_114 : Cond.initialized RL ∈ jGL := jmem 114 (by decide +kernel) rfl
theorem jw_954 : Cond.codeWith yL_feed cL_feed 8 (some .int) [(0, 16, 19, 13)] ∈ jGL := jmem 954 (by decide +kernel) rfl
theorem jw_1257 : Cond.methodLink RL 82 yX11_feed ∈ jGL := jmem 1257 (by decide +kernel) rfl
theorem jw_1258 : Cond.instanceMethod yX11_feed ∈ jGL := jmem 1258 (by decide +kernel) rfl
theorem jw_1259 : Cond.selects RX11 yX11_feed yX11_feed ∈ jGL := jmem 1259 (by decide +kernel) rfl
theorem jw_1260 : Cond.code yX11_feed cX11_feed 6 (some .int) ∈ jGL := jmem 1260 (by decide +kernel) rfl
theorem jw_1253 : Cond.methodLink RL 83 yX11_thrown ∈ jGL := jmem 1253 (by decide +kernel) rfl
theorem jw_1254 : Cond.instanceMethod yX11_thrown ∈ jGL := jmem 1254 (by decide +kernel) rfl
theorem jw_1255 : Cond.selects RX11 yX11_thrown yX11_thrown ∈ jGL := jmem 1255 (by decide +kernel) rfl
theorem jw_1256 : Cond.code yX11_thrown cX11_thrown 1 (some .int) ∈ jGL := jmem 1256 (by decide +kernel) rfl
theorem jw_1035 : Cond.methodLink RL 87 yL_trim ∈ jGL := jmem 1035 (by decide +kernel) rfl
theorem jw_1036 : Cond.static yL_trim ∈ jGL := jmem 1036 (by decide +kernel) rfl
theorem jw_1037 : Cond.codeWith yL_trim cL_trim 4 (some .int) [(0, 9, 12, 19)] ∈ jGL := jmem 1037 (by decide +kernel) rfl
theorem jw_1270 : Cond.methodLink RL 90 yX11_trim ∈ jGL := jmem 1270 (by decide +kernel) rfl
theorem jw_1271 : Cond.instanceMethod yX11_trim ∈ jGL := jmem 1271 (by decide +kernel) rfl
theorem jw_1272 : Cond.selects RX11 yX11_trim yX11_trim ∈ jGL := jmem 1272 (by decide +kernel) rfl
theorem jw_1273 : Cond.code yX11_trim cX11_trim 2 (some .int) ∈ jGL := jmem 1273 (by decide +kernel) rfl
theorem jw_459 : Cond.methodLink RL 91 yX9_teach ∈ jGL := jmem 459 (by decide +kernel) rfl
theorem jw_460 : Cond.instanceMethod yX9_teach ∈ jGL := jmem 460 (by decide +kernel) rfl
theorem jw_461 : Cond.selects RX9 yX9_teach yX9_teach ∈ jGL := jmem 461 (by decide +kernel) rfl
theorem jw_462 : Cond.code yX9_teach cX9_teach 2 (some .int) ∈ jGL := jmem 462 (by decide +kernel) rfl
theorem jw_1416 : Cond.methodLink RL 94 yX11_teach ∈ jGL := jmem 1416 (by decide +kernel) rfl
theorem jw_1417 : Cond.instanceMethod yX11_teach ∈ jGL := jmem 1417 (by decide +kernel) rfl
theorem jw_1418 : Cond.selects RX11 yX11_teach yX11_teach ∈ jGL := jmem 1418 (by decide +kernel) rfl
theorem jw_1419 : Cond.code yX11_teach cX11_teach 3 (some .int) ∈ jGL := jmem 1419 (by decide +kernel) rfl
theorem jw_836 : Cond.methodLink RL 95 yX9_errorAt ∈ jGL := jmem 836 (by decide +kernel) rfl
theorem jw_837 : Cond.instanceMethod yX9_errorAt ∈ jGL := jmem 837 (by decide +kernel) rfl
theorem jw_838 : Cond.selects RX9 yX9_errorAt yX9_errorAt ∈ jGL := jmem 838 (by decide +kernel) rfl
theorem jw_839 : Cond.code yX9_errorAt cX9_errorAt 1 (some .int) ∈ jGL := jmem 839 (by decide +kernel) rfl
theorem jw_1588 : Cond.methodLink RL 98 yX11_errorAt ∈ jGL := jmem 1588 (by decide +kernel) rfl
theorem jw_1589 : Cond.instanceMethod yX11_errorAt ∈ jGL := jmem 1589 (by decide +kernel) rfl
theorem jw_1590 : Cond.selects RX11 yX11_errorAt yX11_errorAt ∈ jGL := jmem 1590 (by decide +kernel) rfl
theorem jw_1591 : Cond.code yX11_errorAt cX11_errorAt 1 (some .int) ∈ jGL := jmem 1591 (by decide +kernel) rfl
theorem jw_1059 : Cond.methodLink RL 99 yL_count ∈ jGL := jmem 1059 (by decide +kernel) rfl
theorem jw_1060 : Cond.static yL_count ∈ jGL := jmem 1060 (by decide +kernel) rfl
theorem jw_1061 : Cond.codeWith yL_count cL_count 4 (some .int) [(0, 9, 12, 24)] ∈ jGL := jmem 1061 (by decide +kernel) rfl
theorem jw_1592 : Cond.methodLink RL 101 yX11_count ∈ jGL := jmem 1592 (by decide +kernel) rfl
theorem jw_1593 : Cond.instanceMethod yX11_count ∈ jGL := jmem 1593 (by decide +kernel) rfl
theorem jw_1594 : Cond.selects RX11 yX11_count yX11_count ∈ jGL := jmem 1594 (by decide +kernel) rfl
theorem jw_1595 : Cond.code yX11_count cX11_count 2 (some .int) ∈ jGL := jmem 1595 (by decide +kernel) rfl
theorem jw_1083 : Cond.methodLink RL 102 yL_cave ∈ jGL := jmem 1083 (by decide +kernel) rfl
theorem jw_1084 : Cond.static yL_cave ∈ jGL := jmem 1084 (by decide +kernel) rfl
theorem jw_1085 : Cond.codeWith yL_cave cL_cave 5 (some .int) [(0, 10, 13, 24)] ∈ jGL := jmem 1085 (by decide +kernel) rfl
theorem jw_1616 : Cond.methodLink RL 105 yX11_cave ∈ jGL := jmem 1616 (by decide +kernel) rfl
theorem jw_1617 : Cond.instanceMethod yX11_cave ∈ jGL := jmem 1617 (by decide +kernel) rfl
theorem jw_1618 : Cond.selects RX11 yX11_cave yX11_cave ∈ jGL := jmem 1618 (by decide +kernel) rfl
theorem jw_1619 : Cond.code yX11_cave cX11_cave 3 (some .int) ∈ jGL := jmem 1619 (by decide +kernel) rfl
theorem jw_1091 : Cond.methodLink RL 106 yL_pipe ∈ jGL := jmem 1091 (by decide +kernel) rfl
theorem jw_1092 : Cond.static yL_pipe ∈ jGL := jmem 1092 (by decide +kernel) rfl
theorem jw_1093 : Cond.codeWith yL_pipe cL_pipe 5 (some .int) [(0, 10, 13, 24)] ∈ jGL := jmem 1093 (by decide +kernel) rfl
theorem jw_1652 : Cond.methodLink RL 108 yX11_pipe ∈ jGL := jmem 1652 (by decide +kernel) rfl
theorem jw_1653 : Cond.instanceMethod yX11_pipe ∈ jGL := jmem 1653 (by decide +kernel) rfl
theorem jw_1654 : Cond.selects RX11 yX11_pipe yX11_pipe ∈ jGL := jmem 1654 (by decide +kernel) rfl
theorem jw_1655 : Cond.code yX11_pipe cX11_pipe 3 (some .int) ∈ jGL := jmem 1655 (by decide +kernel) rfl
theorem jw_1103 : Cond.methodLink RL 109 yL_chord ∈ jGL := jmem 1103 (by decide +kernel) rfl
theorem jw_1104 : Cond.static yL_chord ∈ jGL := jmem 1104 (by decide +kernel) rfl
theorem jw_1105 : Cond.codeWith yL_chord cL_chord 5 (some .int) [(0, 10, 13, 24)] ∈ jGL := jmem 1105 (by decide +kernel) rfl
theorem jw_1676 : Cond.methodLink RL 111 yX11_chord ∈ jGL := jmem 1676 (by decide +kernel) rfl
theorem jw_1677 : Cond.instanceMethod yX11_chord ∈ jGL := jmem 1677 (by decide +kernel) rfl
theorem jw_1678 : Cond.selects RX11 yX11_chord yX11_chord ∈ jGL := jmem 1678 (by decide +kernel) rfl
theorem jw_1679 : Cond.code yX11_chord cX11_chord 3 (some .int) ∈ jGL := jmem 1679 (by decide +kernel) rfl
theorem jw_1111 : Cond.methodLink RL 112 yL_note ∈ jGL := jmem 1111 (by decide +kernel) rfl
theorem jw_1112 : Cond.static yL_note ∈ jGL := jmem 1112 (by decide +kernel) rfl
theorem jw_1113 : Cond.codeWith yL_note cL_note 5 (some .int) [(0, 10, 13, 24)] ∈ jGL := jmem 1113 (by decide +kernel) rfl
theorem jw_1692 : Cond.methodLink RL 114 yX11_note ∈ jGL := jmem 1692 (by decide +kernel) rfl
theorem jw_1693 : Cond.instanceMethod yX11_note ∈ jGL := jmem 1693 (by decide +kernel) rfl
theorem jw_1694 : Cond.selects RX11 yX11_note yX11_note ∈ jGL := jmem 1694 (by decide +kernel) rfl
theorem jw_1695 : Cond.code yX11_note cX11_note 3 (some .int) ∈ jGL := jmem 1695 (by decide +kernel) rfl
theorem jw_1119 : Cond.methodLink RL 115 yL_apart ∈ jGL := jmem 1119 (by decide +kernel) rfl
theorem jw_1120 : Cond.static yL_apart ∈ jGL := jmem 1120 (by decide +kernel) rfl
theorem jw_1121 : Cond.codeWith yL_apart cL_apart 5 (some .int) [(0, 10, 13, 24)] ∈ jGL := jmem 1121 (by decide +kernel) rfl
theorem jw_1696 : Cond.methodLink RL 117 yX11_apart ∈ jGL := jmem 1696 (by decide +kernel) rfl
theorem jw_1697 : Cond.instanceMethod yX11_apart ∈ jGL := jmem 1697 (by decide +kernel) rfl
theorem jw_1698 : Cond.selects RX11 yX11_apart yX11_apart ∈ jGL := jmem 1698 (by decide +kernel) rfl
theorem jw_1699 : Cond.code yX11_apart cX11_apart 7 (some .int) ∈ jGL := jmem 1699 (by decide +kernel) rfl
theorem jw_1130 : Cond.methodLink RL 118 yL_height ∈ jGL := jmem 1130 (by decide +kernel) rfl
theorem jw_1131 : Cond.static yL_height ∈ jGL := jmem 1131 (by decide +kernel) rfl
theorem jw_1132 : Cond.codeWith yL_height cL_height 4 (some .int) [(0, 9, 12, 19)] ∈ jGL := jmem 1132 (by decide +kernel) rfl
theorem jw_1700 : Cond.methodLink RL 120 yX11_height ∈ jGL := jmem 1700 (by decide +kernel) rfl
theorem jw_1701 : Cond.instanceMethod yX11_height ∈ jGL := jmem 1701 (by decide +kernel) rfl
theorem jw_1702 : Cond.selects RX11 yX11_height yX11_height ∈ jGL := jmem 1702 (by decide +kernel) rfl
theorem jw_1703 : Cond.code yX11_height cX11_height 2 (some .int) ∈ jGL := jmem 1703 (by decide +kernel) rfl
theorem jw_1138 : Cond.methodLink RL 121 yL_isSilent ∈ jGL := jmem 1138 (by decide +kernel) rfl
theorem jw_1139 : Cond.static yL_isSilent ∈ jGL := jmem 1139 (by decide +kernel) rfl
theorem jw_1140 : Cond.codeWith yL_isSilent cL_isSilent 4 (some .int) [(0, 16, 19, 19)] ∈ jGL := jmem 1140 (by decide +kernel) rfl
theorem jw_1708 : Cond.methodLink RL 123 yX11_isSilent ∈ jGL := jmem 1708 (by decide +kernel) rfl
theorem jw_1709 : Cond.instanceMethod yX11_isSilent ∈ jGL := jmem 1709 (by decide +kernel) rfl
theorem jw_1710 : Cond.selects RX11 yX11_isSilent yX11_isSilent ∈ jGL := jmem 1710 (by decide +kernel) rfl
theorem jw_1711 : Cond.code yX11_isSilent cX11_isSilent 2 (some .boolean) ∈ jGL := jmem 1711 (by decide +kernel) rfl
theorem jw_1146 : Cond.methodLink RL 124 yL_setTide ∈ jGL := jmem 1146 (by decide +kernel) rfl
theorem jw_1147 : Cond.static yL_setTide ∈ jGL := jmem 1147 (by decide +kernel) rfl
theorem jw_1148 : Cond.codeWith yL_setTide cL_setTide 4 (some .int) [(0, 9, 12, 19)] ∈ jGL := jmem 1148 (by decide +kernel) rfl
theorem jw_1712 : Cond.methodLink RL 126 yX11_setTide ∈ jGL := jmem 1712 (by decide +kernel) rfl
theorem jw_1713 : Cond.instanceMethod yX11_setTide ∈ jGL := jmem 1713 (by decide +kernel) rfl
theorem jw_1714 : Cond.selects RX11 yX11_setTide yX11_setTide ∈ jGL := jmem 1714 (by decide +kernel) rfl
theorem jw_1715 : Cond.code yX11_setTide cX11_setTide 2 (some .int) ∈ jGL := jmem 1715 (by decide +kernel) rfl
theorem jw_1154 : Cond.methodLink RL 127 yL_clean ∈ jGL := jmem 1154 (by decide +kernel) rfl
theorem jw_1155 : Cond.static yL_clean ∈ jGL := jmem 1155 (by decide +kernel) rfl
theorem jw_1156 : Cond.codeWith yL_clean cL_clean 4 (some .int) [(0, 9, 12, 24)] ∈ jGL := jmem 1156 (by decide +kernel) rfl
theorem jw_1720 : Cond.methodLink RL 129 yX11_clean ∈ jGL := jmem 1720 (by decide +kernel) rfl
theorem jw_1721 : Cond.instanceMethod yX11_clean ∈ jGL := jmem 1721 (by decide +kernel) rfl
theorem jw_1722 : Cond.selects RX11 yX11_clean yX11_clean ∈ jGL := jmem 1722 (by decide +kernel) rfl
theorem jw_1723 : Cond.code yX11_clean cX11_clean 2 (some .int) ∈ jGL := jmem 1723 (by decide +kernel) rfl
theorem jw_1162 : Cond.methodLink RL 130 yL_cut ∈ jGL := jmem 1162 (by decide +kernel) rfl
theorem jw_1163 : Cond.static yL_cut ∈ jGL := jmem 1163 (by decide +kernel) rfl
theorem jw_1164 : Cond.codeWith yL_cut cL_cut 5 (some .int) [(0, 10, 13, 24), (0, 10, 17, 19)] ∈ jGL := jmem 1164 (by decide +kernel) rfl
theorem jw_1724 : Cond.methodLink RL 132 yX11_cut ∈ jGL := jmem 1724 (by decide +kernel) rfl
theorem jw_1725 : Cond.instanceMethod yX11_cut ∈ jGL := jmem 1725 (by decide +kernel) rfl
theorem jw_1726 : Cond.selects RX11 yX11_cut yX11_cut ∈ jGL := jmem 1726 (by decide +kernel) rfl
theorem jw_1727 : Cond.code yX11_cut cX11_cut 3 (some .int) ∈ jGL := jmem 1727 (by decide +kernel) rfl
theorem jw_1170 : Cond.methodLink RL 133 yL_pass ∈ jGL := jmem 1170 (by decide +kernel) rfl
theorem jw_1171 : Cond.static yL_pass ∈ jGL := jmem 1171 (by decide +kernel) rfl
theorem jw_1172 : Cond.codeWith yL_pass cL_pass 4 (some .int) [(0, 9, 12, 19)] ∈ jGL := jmem 1172 (by decide +kernel) rfl
theorem jw_1728 : Cond.methodLink RL 135 yX11_pass_ ∈ jGL := jmem 1728 (by decide +kernel) rfl
theorem jw_1729 : Cond.instanceMethod yX11_pass_ ∈ jGL := jmem 1729 (by decide +kernel) rfl
theorem jw_1730 : Cond.selects RX11 yX11_pass_ yX11_pass_ ∈ jGL := jmem 1730 (by decide +kernel) rfl
theorem jw_1731 : Cond.code yX11_pass_ cX11_pass_ 3 (some .int) ∈ jGL := jmem 1731 (by decide +kernel) rfl
theorem jw_1212 : Cond.methodLink RL 136 yL_until ∈ jGL := jmem 1212 (by decide +kernel) rfl
theorem jw_1213 : Cond.static yL_until ∈ jGL := jmem 1213 (by decide +kernel) rfl
theorem jw_1214 : Cond.codeWith yL_until cL_until 4 (some .int) [(0, 9, 12, 24)] ∈ jGL := jmem 1214 (by decide +kernel) rfl
theorem jw_1756 : Cond.methodLink RL 138 yX11_until ∈ jGL := jmem 1756 (by decide +kernel) rfl
theorem jw_1757 : Cond.instanceMethod yX11_until ∈ jGL := jmem 1757 (by decide +kernel) rfl
theorem jw_1758 : Cond.selects RX11 yX11_until yX11_until ∈ jGL := jmem 1758 (by decide +kernel) rfl
theorem jw_1759 : Cond.code yX11_until cX11_until 3 (some .int) ∈ jGL := jmem 1759 (by decide +kernel) rfl
theorem jw_1227 : Cond.methodLink RL 139 yL_foresee ∈ jGL := jmem 1227 (by decide +kernel) rfl
theorem jw_1228 : Cond.static yL_foresee ∈ jGL := jmem 1228 (by decide +kernel) rfl
theorem jw_1229 : Cond.codeWith yL_foresee cL_foresee 5 (some .int) [(0, 10, 13, 19), (0, 10, 17, 24)] ∈ jGL := jmem 1229 (by decide +kernel) rfl
theorem jw_1767 : Cond.methodLink RL 141 yX11_foresee ∈ jGL := jmem 1767 (by decide +kernel) rfl
theorem jw_1768 : Cond.instanceMethod yX11_foresee ∈ jGL := jmem 1768 (by decide +kernel) rfl
theorem jw_1769 : Cond.selects RX11 yX11_foresee yX11_foresee ∈ jGL := jmem 1769 (by decide +kernel) rfl
theorem jw_1770 : Cond.code yX11_foresee cX11_foresee 3 (some .int) ∈ jGL := jmem 1770 (by decide +kernel) rfl
theorem jw_1235 : Cond.methodLink RL 142 yL_advise ∈ jGL := jmem 1235 (by decide +kernel) rfl
theorem jw_1236 : Cond.static yL_advise ∈ jGL := jmem 1236 (by decide +kernel) rfl
theorem jw_1237 : Cond.codeWith yL_advise cL_advise 4 (some .int) [(0, 9, 12, 19)] ∈ jGL := jmem 1237 (by decide +kernel) rfl
theorem jw_1771 : Cond.methodLink RL 144 yX11_advise ∈ jGL := jmem 1771 (by decide +kernel) rfl
theorem jw_1772 : Cond.instanceMethod yX11_advise ∈ jGL := jmem 1772 (by decide +kernel) rfl
theorem jw_1773 : Cond.selects RX11 yX11_advise yX11_advise ∈ jGL := jmem 1773 (by decide +kernel) rfl
theorem jw_1774 : Cond.code yX11_advise cX11_advise 6 (some .int) ∈ jGL := jmem 1774 (by decide +kernel) rfl
theorem jw_1246 : Cond.methodLink RL 145 yL_best ∈ jGL := jmem 1246 (by decide +kernel) rfl
theorem jw_1247 : Cond.static yL_best ∈ jGL := jmem 1247 (by decide +kernel) rfl
theorem jw_1248 : Cond.codeWith yL_best cL_best 4 (some .int) [(0, 9, 12, 19)] ∈ jGL := jmem 1248 (by decide +kernel) rfl
theorem jw_1775 : Cond.methodLink RL 147 yX11_best ∈ jGL := jmem 1775 (by decide +kernel) rfl
theorem jw_1776 : Cond.instanceMethod yX11_best ∈ jGL := jmem 1776 (by decide +kernel) rfl
theorem jw_1777 : Cond.selects RX11 yX11_best yX11_best ∈ jGL := jmem 1777 (by decide +kernel) rfl
theorem jw_1778 : Cond.code yX11_best cX11_best 5 (some .int) ∈ jGL := jmem 1778 (by decide +kernel) rfl
theorem jw_840 : Cond.methodLink RL 148 yX9_mean ∈ jGL := jmem 840 (by decide +kernel) rfl
theorem jw_841 : Cond.instanceMethod yX9_mean ∈ jGL := jmem 841 (by decide +kernel) rfl
theorem jw_842 : Cond.selects RX9 yX9_mean yX9_mean ∈ jGL := jmem 842 (by decide +kernel) rfl
theorem jw_843 : Cond.code yX9_mean cX9_mean 4 (some .double) ∈ jGL := jmem 843 (by decide +kernel) rfl
theorem jw_1779 : Cond.methodLink RL 152 yX11_mean ∈ jGL := jmem 1779 (by decide +kernel) rfl
theorem jw_1780 : Cond.instanceMethod yX11_mean ∈ jGL := jmem 1780 (by decide +kernel) rfl
theorem jw_1781 : Cond.selects RX11 yX11_mean yX11_mean ∈ jGL := jmem 1781 (by decide +kernel) rfl
theorem jw_1782 : Cond.code yX11_mean cX11_mean 3 (some .double) ∈ jGL := jmem 1782 (by decide +kernel) rfl
theorem jw_854 : Cond.methodLink RL 153 yX9_digest ∈ jGL := jmem 854 (by decide +kernel) rfl
theorem jw_855 : Cond.instanceMethod yX9_digest ∈ jGL := jmem 855 (by decide +kernel) rfl
theorem jw_856 : Cond.selects RX9 yX9_digest yX9_digest ∈ jGL := jmem 856 (by decide +kernel) rfl
theorem jw_857 : Cond.code yX9_digest cX9_digest 5 (some .long) ∈ jGL := jmem 857 (by decide +kernel) rfl
theorem jw_1783 : Cond.methodLink RL 157 yX11_digest ∈ jGL := jmem 1783 (by decide +kernel) rfl
theorem jw_1784 : Cond.instanceMethod yX11_digest ∈ jGL := jmem 1784 (by decide +kernel) rfl
theorem jw_1785 : Cond.selects RX11 yX11_digest yX11_digest ∈ jGL := jmem 1785 (by decide +kernel) rfl
theorem jw_1786 : Cond.code yX11_digest cX11_digest 5 (some .long) ∈ jGL := jmem 1786 (by decide +kernel) rfl
/-! the law's cases -/
theorem jw_widen {C : JC} {cl sl k n : Nat} {Q : State → Prop} {pc : Nat} {ls st : List JV} {w : JW} (h1 : cl ≤ k) (h2 : sl ≤ n) (kk : jW C k n Q pc ls st w) : jW C cl sl Q pc ls st w := fun H locs a hr hl => W.widen h1 h2 (kk H locs a hr hl)
theorem jloc_of {ad : JAd} {ls : List JV} {a : Array Slot} {n : Nat} {l : List (Nat × Value)} (h : lv_has a n l) (hn : n = ls.length) (hk : ∀ (i : Nat) (v : JV), ls[i]? = some v → v ≠ jU → (i, jcv ad v) ∈ l) : jloc ad ls a := ⟨h.1.trans hn, h.2.1, fun i v hi hv => h.2.2 (i, jcv ad v) (hk i v hi hv)⟩
theorem lc_feed {C : JC} {cl sl : Nat} {Q : State → Prop} {w : JW} {b L : Nat} {xs : Nat → Int32} (hm : jok C ML_law 500 cl sl) (hm1 : jok C ML_law 500 (cl + 1) (sl + 6)) (hE : jLE C) (hS : jScr C b L xs) {i : Nat} (hi : 6 * i + 6 ≤ L) (hL : L ≤ 3072) (hI : jInv i w) (kk : ∀ w2, jInv (i + 1) w2 → jW C (cl + 1) (sl + 6) Q 1372 [jR 97 false, jR 0 false, jR 41 false, jR 63 false, jI (nI (6 * i)), jU, jU, jU, jU] [] w2) : jW C cl sl Q 144 [jR 97 false, jR 0 false, jR 41 false, jR 63 false, jI (nI (6 * i)), jU, jU, jU, jU] [] w := by
  have v1 : vp_in (nI (6 * i) + 1) L := jvi (k := 1) (by omega) hL
  have v2 : vp_in (nI (6 * i) + 2) L := jvi (k := 2) (by omega) hL
  have v3 : vp_in (nI (6 * i) + 3) L := jvi (k := 3) (by omega) hL
  have v4 : vp_in (nI (6 * i) + 4) L := jvi (k := 4) (by omega) hL
  have v5 : vp_in (nI (6 * i) + 5) L := jvi (k := 5) (by omega) hL
  obtain ⟨dw, dm, P, hdw, hdm, hs, hP⟩ := jop_feed hI (xs (nI (6 * i) + 1).toNatClampNeg) (xs (nI (6 * i) + 2).toNatClampNeg) (xs (nI (6 * i) + 3).toNatClampNeg) (xs (nI (6 * i) + 4).toNatClampNeg) (xs (nI (6 * i) + 5).toNatClampNeg)
  refine jr_aload_n hm (i := 1) rfl rfl dL_law_144 ?_
  refine jr_aload_n hm (i := 0) rfl rfl dL_law_145 ?_
  refine jr_iload hm (i := 4) rfl dL_law_146 ?_
  refine jr_iconst hm (v := 1) (by decide) dL_law_148 ?_
  refine jr_iadd hm dL_law_149 ?_
  refine jl_sld hm hS v1 dL_law_150 ?_
  refine jr_aload_n hm (i := 0) rfl rfl dL_law_151 ?_
  refine jr_iload hm (i := 4) rfl dL_law_152 ?_
  refine jr_iconst hm (v := 2) (by decide) dL_law_154 ?_
  refine jr_iadd hm dL_law_155 ?_
  refine jl_sld hm hS v2 dL_law_156 ?_
  refine jr_aload_n hm (i := 0) rfl rfl dL_law_157 ?_
  refine jr_iload hm (i := 4) rfl dL_law_158 ?_
  refine jr_iconst hm (v := 3) (by decide) dL_law_160 ?_
  refine jr_iadd hm dL_law_161 ?_
  refine jl_sld hm hS v3 dL_law_162 ?_
  refine jr_aload_n hm (i := 0) rfl rfl dL_law_163 ?_
  refine jr_iload hm (i := 4) rfl dL_law_164 ?_
  refine jr_iconst hm (v := 4) (by decide) dL_law_166 ?_
  refine jr_iadd hm dL_law_167 ?_
  refine jl_sld hm hS v4 dL_law_168 ?_
  refine jr_aload_n hm (i := 0) rfl rfl dL_law_169 ?_
  refine jr_iload hm (i := 4) rfl dL_law_170 ?_
  refine jr_iconst hm (v := 5) (by decide) dL_law_172 ?_
  refine jr_iadd hm dL_law_173 ?_
  refine jl_sld hm hS v5 dL_law_174 ?_
  refine jr_aload_n hm (i := 3) rfl rfl dL_law_175 ?_
  refine jr_callSW (cl := cl) (sl := sl) (mc := 1) (ms := 6) (as := [jR 0 false, jI (xs (nI (6 * i) + 1).toNatClampNeg), jI (xs (nI (6 * i) + 2).toNatClampNeg), jI (xs (nI (6 * i) + 3).toNatClampNeg), jI (xs (nI (6 * i) + 4).toNatClampNeg), jI (xs (nI (6 * i) + 5).toNatClampNeg), jR 63 false]) hm1 hE hs (by omega) jw_952 jw_953 jw_114 jw_954 jn_L_feed rfl rfl (Nat.le_of_ble_eq_true rfl) rfl dL_law_176 (fun v w1 hp => ?_)
  obtain ⟨k, rfl, hM⟩ := hP v w1 hp
  refine jr_istore hm1 (i := 5) (Nat.le_of_ble_eq_true rfl) rfl dL_law_179 ?_
  refine jr_aload_n hm1 (i := 2) rfl rfl dL_law_181 ?_
  refine jr_aload_n hm1 (i := 0) rfl rfl dL_law_182 ?_
  refine jr_iload hm1 (i := 4) rfl dL_law_183 ?_
  refine jr_iconst hm1 (v := 1) (by decide) dL_law_185 ?_
  refine jr_iadd hm1 dL_law_186 ?_
  refine jl_sld hm1 hS v1 dL_law_187 ?_
  refine jr_aload_n hm1 (i := 0) rfl rfl dL_law_188 ?_
  refine jr_iload hm1 (i := 4) rfl dL_law_189 ?_
  refine jr_iconst hm1 (v := 2) (by decide) dL_law_191 ?_
  refine jr_iadd hm1 dL_law_192 ?_
  refine jl_sld hm1 hS v2 dL_law_193 ?_
  refine jr_aload_n hm1 (i := 0) rfl rfl dL_law_194 ?_
  refine jr_iload hm1 (i := 4) rfl dL_law_195 ?_
  refine jr_iconst hm1 (v := 3) (by decide) dL_law_197 ?_
  refine jr_iadd hm1 dL_law_198 ?_
  refine jl_sld hm1 hS v3 dL_law_199 ?_
  refine jr_aload_n hm1 (i := 0) rfl rfl dL_law_200 ?_
  refine jr_iload hm1 (i := 4) rfl dL_law_201 ?_
  refine jr_iconst hm1 (v := 4) (by decide) dL_law_203 ?_
  refine jr_iadd hm1 dL_law_204 ?_
  refine jl_sld hm1 hS v4 dL_law_205 ?_
  refine jr_aload_n hm1 (i := 0) rfl rfl dL_law_206 ?_
  refine jr_iload hm1 (i := 4) rfl dL_law_207 ?_
  refine jr_iconst hm1 (v := 5) (by decide) dL_law_209 ?_
  refine jr_iadd hm1 dL_law_210 ?_
  refine jl_sld hm1 hS v5 dL_law_211 ?_
  refine jr_callV (cl := cl + 1) (sl := sl + 6) (mc := 0) (ms := 0) (as := [jI (xs (nI (6 * i) + 1).toNatClampNeg), jI (xs (nI (6 * i) + 2).toNatClampNeg), jI (xs (nI (6 * i) + 3).toNatClampNeg), jI (xs (nI (6 * i) + 4).toNatClampNeg), jI (xs (nI (6 * i) + 5).toNatClampNeg)]) hm1 hM (by omega) jw_1257 jw_1258 jw_1259 jw_125 jw_1260 jn_X11_feed rfl jo_41 (fun _ _ _ _ _ => ⟨_, rfl⟩) rfl rfl (Nat.le_of_ble_eq_true rfl) rfl dL_law_212 (fun v w2 hp2 => ?_)
  obtain ⟨r, rfl, h1, h2, h3⟩ := hp2
  refine jr_istore hm1 (i := 6) (Nat.le_of_ble_eq_true rfl) rfl dL_law_215 ?_
  refine jr_aload_n hm1 (i := 2) rfl rfl dL_law_217 ?_
  refine jr_callV (cl := cl + 1) (sl := sl + 6) (mc := 0) (ms := 0) (as := []) hm1 (c_thrown w2) (by decide) jw_1253 jw_1254 jw_1255 jw_125 jw_1256 jn_X11_thrown rfl jo_41 (fun _ _ _ _ _ => ⟨_, rfl⟩) rfl rfl (Nat.le_of_ble_eq_true rfl) rfl dL_law_218 (fun v w3 hp3 => ?_)
  obtain ⟨rfl, rfl⟩ := hp3
  refine jr_iload hm1 (i := 5) rfl dL_law_221 ?_
  refine jr_icmp_eq hm1 (tgt := 228) dL_law_223 (by decide) (fun _ => ?_) (fun z => absurd h1 z)
  refine jr_iload hm1 (i := 5) rfl dL_law_228 ?_
  have fin : jW C (cl + 1) (sl + 6) Q 245 [jR 97 false, jR 0 false, jR 41 false, jR 63 false, jI (nI (6 * i)), jI k, jI r, jU, jU] [] w3 := jr_goto hm1 (tgt := 1372) dL_law_245 (by decide) (jr_drop (jle_same (jle_same (jle_same (jle_same (jle_same (jle_drop (jle_drop (jle_same (jle_same jle_nil))))))))) (kk w3 h3))
  refine jr_if_ne hm1 (tgt := 245) dL_law_230 (by decide) (fun _ => fin) (fun z => ?_)
  refine jr_aload_n hm1 (i := 3) rfl rfl dL_law_233 ?_
  refine jr_iconst hm1 (v := 0) (by decide) dL_law_234 ?_
  refine jr_laload hm1 ja_63 (show vp_in (nI 0) 1 from vp_in_nI (by omega) (by omega)) dL_law_235 ?_
  refine jr_iload hm1 (i := 6) rfl dL_law_236 ?_
  refine jr_i2l hm1 dL_law_238 ?_
  refine jr_lcmp hm1 dL_law_239 ?_
  exact jr_if_eq hm1 (tgt := 245) dL_law_240 (by decide) (fun _ => fin) (fun z2 => absurd ((lg_cmp0 _ _).mpr (h2 z)) z2)
theorem lc_trim {C : JC} {cl sl : Nat} {Q : State → Prop} {w : JW} {b L : Nat} {xs : Nat → Int32} (hm : jok C ML_law 500 cl sl) (hm1 : jok C ML_law 500 (cl + 1) (sl + 6)) (hE : jLE C) (hS : jScr C b L xs) {i : Nat} (hi : 6 * i + 6 ≤ L) (hL : L ≤ 3072) (hI : jInv i w) (kk : ∀ w2, jInv (i + 1) w2 → jW C (cl + 1) (sl + 6) Q 1372 [jR 97 false, jR 0 false, jR 41 false, jR 63 false, jI (nI (6 * i)), jU, jU, jU, jU] [] w2) : jW C cl sl Q 248 [jR 97 false, jR 0 false, jR 41 false, jR 63 false, jI (nI (6 * i)), jU, jU, jU, jU] [] w := by
  have v1 : vp_in (nI (6 * i) + 1) L := jvi (k := 1) (by omega) hL
  obtain ⟨dw, dm, P, hdw, hdm, hs, hP⟩ := jop_trim hI (xs (nI (6 * i) + 1).toNatClampNeg)
  refine jr_aload_n hm (i := 1) rfl rfl dL_law_248 ?_
  refine jr_aload_n hm (i := 0) rfl rfl dL_law_249 ?_
  refine jr_iload hm (i := 4) rfl dL_law_250 ?_
  refine jr_iconst hm (v := 1) (by decide) dL_law_252 ?_
  refine jr_iadd hm dL_law_253 ?_
  refine jl_sld hm hS v1 dL_law_254 ?_
  refine jr_aload_n hm (i := 3) rfl rfl dL_law_255 ?_
  refine jr_callSW (cl := cl) (sl := sl) (mc := 1) (ms := 6) (as := [jR 0 false, jI (xs (nI (6 * i) + 1).toNatClampNeg), jR 63 false]) hm1 hE hs (by omega) jw_1035 jw_1036 jw_114 jw_1037 jn_L_trim rfl rfl (Nat.le_of_ble_eq_true rfl) rfl dL_law_256 (fun v w1 hp => ?_)
  obtain ⟨k, rfl, hM⟩ := hP v w1 hp
  refine jr_istore hm1 (i := 5) (Nat.le_of_ble_eq_true rfl) rfl dL_law_259 ?_
  refine jr_aload_n hm1 (i := 2) rfl rfl dL_law_261 ?_
  refine jr_aload_n hm1 (i := 0) rfl rfl dL_law_262 ?_
  refine jr_iload hm1 (i := 4) rfl dL_law_263 ?_
  refine jr_iconst hm1 (v := 1) (by decide) dL_law_265 ?_
  refine jr_iadd hm1 dL_law_266 ?_
  refine jl_sld hm1 hS v1 dL_law_267 ?_
  refine jr_callV (cl := cl + 1) (sl := sl + 6) (mc := 0) (ms := 0) (as := [jI (xs (nI (6 * i) + 1).toNatClampNeg)]) hm1 hM (by omega) jw_1270 jw_1271 jw_1272 jw_125 jw_1273 jn_X11_trim rfl jo_41 (fun _ _ _ _ _ => ⟨_, rfl⟩) rfl rfl (Nat.le_of_ble_eq_true rfl) rfl dL_law_268 (fun v w2 hp2 => ?_)
  obtain ⟨r, rfl, h1, h2, h3⟩ := hp2
  refine jr_istore hm1 (i := 6) (Nat.le_of_ble_eq_true rfl) rfl dL_law_271 ?_
  refine jr_aload_n hm1 (i := 2) rfl rfl dL_law_273 ?_
  refine jr_callV (cl := cl + 1) (sl := sl + 6) (mc := 0) (ms := 0) (as := []) hm1 (c_thrown w2) (by decide) jw_1253 jw_1254 jw_1255 jw_125 jw_1256 jn_X11_thrown rfl jo_41 (fun _ _ _ _ _ => ⟨_, rfl⟩) rfl rfl (Nat.le_of_ble_eq_true rfl) rfl dL_law_274 (fun v w3 hp3 => ?_)
  obtain ⟨rfl, rfl⟩ := hp3
  refine jr_iload hm1 (i := 5) rfl dL_law_277 ?_
  refine jr_icmp_eq hm1 (tgt := 284) dL_law_279 (by decide) (fun _ => ?_) (fun z => absurd h1 z)
  refine jr_iload hm1 (i := 5) rfl dL_law_284 ?_
  have fin : jW C (cl + 1) (sl + 6) Q 301 [jR 97 false, jR 0 false, jR 41 false, jR 63 false, jI (nI (6 * i)), jI k, jI r, jU, jU] [] w3 := jr_goto hm1 (tgt := 1372) dL_law_301 (by decide) (jr_drop (jle_same (jle_same (jle_same (jle_same (jle_same (jle_drop (jle_drop (jle_same (jle_same jle_nil))))))))) (kk w3 h3))
  refine jr_if_ne hm1 (tgt := 301) dL_law_286 (by decide) (fun _ => fin) (fun z => ?_)
  refine jr_aload_n hm1 (i := 3) rfl rfl dL_law_289 ?_
  refine jr_iconst hm1 (v := 0) (by decide) dL_law_290 ?_
  refine jr_laload hm1 ja_63 (show vp_in (nI 0) 1 from vp_in_nI (by omega) (by omega)) dL_law_291 ?_
  refine jr_iload hm1 (i := 6) rfl dL_law_292 ?_
  refine jr_i2l hm1 dL_law_294 ?_
  refine jr_lcmp hm1 dL_law_295 ?_
  exact jr_if_eq hm1 (tgt := 301) dL_law_296 (by decide) (fun _ => fin) (fun z2 => absurd ((lg_cmp0 _ _).mpr (h2 z)) z2)
theorem lc_teach {C : JC} {cl sl : Nat} {Q : State → Prop} {w : JW} {b L : Nat} {xs : Nat → Int32} (hm : jok C ML_law 500 cl sl) (hm1 : jok C ML_law 500 (cl + 1) (sl + 6)) (hE : jLE C) (hS : jScr C b L xs) {i : Nat} (hi : 6 * i + 6 ≤ L) (hL : L ≤ 3072) (hI : jInv i w) (kk : ∀ w2, jInv (i + 1) w2 → jW C (cl + 1) (sl + 6) Q 1372 [jR 97 false, jR 0 false, jR 41 false, jR 63 false, jI (nI (6 * i)), jU, jU, jU, jU] [] w2) : jW C cl sl Q 304 [jR 97 false, jR 0 false, jR 41 false, jR 63 false, jI (nI (6 * i)), jU, jU, jU, jU] [] w := by
  obtain ⟨P, hs, hP⟩ := jop_teach hI
  refine jr_aload_n hm (i := 1) rfl rfl dL_law_304 ?_
  refine jr_callV (cl := cl) (sl := sl) (mc := 0) (ms := 0) (as := []) hm hs (by decide) jw_459 jw_460 jw_461 jw_115 jw_462 jn_X9_teach rfl jo_0 (fun _ _ _ _ _ => ⟨_, rfl⟩) rfl rfl (Nat.le_of_ble_eq_true rfl) rfl dL_law_305 (fun v w1 hp => ?_)
  obtain ⟨r, rfl, hp⟩ := hp
  refine jr_aload_n hm (i := 2) rfl rfl dL_law_308 ?_
  refine jr_callV (cl := cl) (sl := sl) (mc := 0) (ms := 0) (as := []) hm (hP r w1 hp) (by decide) jw_1416 jw_1417 jw_1418 jw_125 jw_1419 jn_X11_teach rfl jo_41 (fun _ _ _ _ _ => ⟨_, rfl⟩) rfl rfl (Nat.le_of_ble_eq_true rfl) rfl dL_law_309 (fun v w2 hp2 => ?_)
  obtain ⟨r2, rfl, e, h3⟩ := hp2
  exact jr_icmp_eq hm (tgt := 1372) dL_law_312 (by decide) (fun _ => jw_widen (Nat.le_add_right _ _) (Nat.le_add_right _ _) (kk w2 h3)) (fun z => absurd e.symm z)
theorem lc_errorAt {C : JC} {cl sl : Nat} {Q : State → Prop} {w : JW} {b L : Nat} {xs : Nat → Int32} (hm : jok C ML_law 500 cl sl) (hm1 : jok C ML_law 500 (cl + 1) (sl + 6)) (hE : jLE C) (hS : jScr C b L xs) {i : Nat} (hi : 6 * i + 6 ≤ L) (hL : L ≤ 3072) (hI : jInv i w) (kk : ∀ w2, jInv (i + 1) w2 → jW C (cl + 1) (sl + 6) Q 1372 [jR 97 false, jR 0 false, jR 41 false, jR 63 false, jI (nI (6 * i)), jU, jU, jU, jU] [] w2) : jW C cl sl Q 317 [jR 97 false, jR 0 false, jR 41 false, jR 63 false, jI (nI (6 * i)), jU, jU, jU, jU] [] w := by
  obtain ⟨hs, hP⟩ := jop_errorAt hI
  refine jr_aload_n hm (i := 1) rfl rfl dL_law_317 ?_
  refine jr_callV (cl := cl) (sl := sl) (mc := 0) (ms := 0) (as := []) hm hs (by decide) jw_836 jw_837 jw_838 jw_115 jw_839 jn_X9_errorAt rfl jo_0 (fun _ _ _ _ _ => ⟨_, rfl⟩) rfl rfl (Nat.le_of_ble_eq_true rfl) rfl dL_law_318 (fun v w1 hp => ?_)
  obtain ⟨rfl, rfl⟩ := hp
  refine jr_aload_n hm (i := 2) rfl rfl dL_law_321 ?_
  refine jr_callV (cl := cl) (sl := sl) (mc := 0) (ms := 0) (as := []) hm hP (by decide) jw_1588 jw_1589 jw_1590 jw_125 jw_1591 jn_X11_errorAt rfl jo_41 (fun _ _ _ _ _ => ⟨_, rfl⟩) rfl rfl (Nat.le_of_ble_eq_true rfl) rfl dL_law_322 (fun v w2 hp2 => ?_)
  obtain ⟨r2, rfl, e, h3⟩ := hp2
  exact jr_icmp_eq hm (tgt := 1372) dL_law_325 (by decide) (fun _ => jw_widen (Nat.le_add_right _ _) (Nat.le_add_right _ _) (kk w2 h3)) (fun z => absurd e.symm z)
theorem lc_count {C : JC} {cl sl : Nat} {Q : State → Prop} {w : JW} {b L : Nat} {xs : Nat → Int32} (hm : jok C ML_law 500 cl sl) (hm1 : jok C ML_law 500 (cl + 1) (sl + 6)) (hE : jLE C) (hS : jScr C b L xs) {i : Nat} (hi : 6 * i + 6 ≤ L) (hL : L ≤ 3072) (hI : jInv i w) (kk : ∀ w2, jInv (i + 1) w2 → jW C (cl + 1) (sl + 6) Q 1372 [jR 97 false, jR 0 false, jR 41 false, jR 63 false, jI (nI (6 * i)), jU, jU, jU, jU] [] w2) : jW C cl sl Q 330 [jR 97 false, jR 0 false, jR 41 false, jR 63 false, jI (nI (6 * i)), jU, jU, jU, jU] [] w := by
  have v1 : vp_in (nI (6 * i) + 1) L := jvi (k := 1) (by omega) hL
  obtain ⟨dw, dm, P, hdw, hdm, hs, hP⟩ := jop_count hI (xs (nI (6 * i) + 1).toNatClampNeg)
  refine jr_aload_n hm (i := 1) rfl rfl dL_law_330 ?_
  refine jr_aload_n hm (i := 0) rfl rfl dL_law_331 ?_
  refine jr_iload hm (i := 4) rfl dL_law_332 ?_
  refine jr_iconst hm (v := 1) (by decide) dL_law_334 ?_
  refine jr_iadd hm dL_law_335 ?_
  refine jl_sld hm hS v1 dL_law_336 ?_
  refine jr_aload_n hm (i := 3) rfl rfl dL_law_337 ?_
  refine jr_callSW (cl := cl) (sl := sl) (mc := 1) (ms := 6) (as := [jR 0 false, jI (xs (nI (6 * i) + 1).toNatClampNeg), jR 63 false]) hm1 hE hs (by omega) jw_1059 jw_1060 jw_114 jw_1061 jn_L_count rfl rfl (Nat.le_of_ble_eq_true rfl) rfl dL_law_338 (fun v w1 hp => ?_)
  obtain ⟨k, rfl, hM⟩ := hP v w1 hp
  refine jr_istore hm1 (i := 5) (Nat.le_of_ble_eq_true rfl) rfl dL_law_341 ?_
  refine jr_aload_n hm1 (i := 2) rfl rfl dL_law_343 ?_
  refine jr_aload_n hm1 (i := 0) rfl rfl dL_law_344 ?_
  refine jr_iload hm1 (i := 4) rfl dL_law_345 ?_
  refine jr_iconst hm1 (v := 1) (by decide) dL_law_347 ?_
  refine jr_iadd hm1 dL_law_348 ?_
  refine jl_sld hm1 hS v1 dL_law_349 ?_
  refine jr_callV (cl := cl + 1) (sl := sl + 6) (mc := 0) (ms := 0) (as := [jI (xs (nI (6 * i) + 1).toNatClampNeg)]) hm1 hM (by omega) jw_1592 jw_1593 jw_1594 jw_125 jw_1595 jn_X11_count rfl jo_41 (fun _ _ _ _ _ => ⟨_, rfl⟩) rfl rfl (Nat.le_of_ble_eq_true rfl) rfl dL_law_350 (fun v w2 hp2 => ?_)
  obtain ⟨r, rfl, h1, h2, h3⟩ := hp2
  refine jr_istore hm1 (i := 6) (Nat.le_of_ble_eq_true rfl) rfl dL_law_353 ?_
  refine jr_aload_n hm1 (i := 2) rfl rfl dL_law_355 ?_
  refine jr_callV (cl := cl + 1) (sl := sl + 6) (mc := 0) (ms := 0) (as := []) hm1 (c_thrown w2) (by decide) jw_1253 jw_1254 jw_1255 jw_125 jw_1256 jn_X11_thrown rfl jo_41 (fun _ _ _ _ _ => ⟨_, rfl⟩) rfl rfl (Nat.le_of_ble_eq_true rfl) rfl dL_law_356 (fun v w3 hp3 => ?_)
  obtain ⟨rfl, rfl⟩ := hp3
  refine jr_iload hm1 (i := 5) rfl dL_law_359 ?_
  refine jr_icmp_eq hm1 (tgt := 366) dL_law_361 (by decide) (fun _ => ?_) (fun z => absurd h1 z)
  refine jr_iload hm1 (i := 5) rfl dL_law_366 ?_
  have fin : jW C (cl + 1) (sl + 6) Q 383 [jR 97 false, jR 0 false, jR 41 false, jR 63 false, jI (nI (6 * i)), jI k, jI r, jU, jU] [] w3 := jr_goto hm1 (tgt := 1372) dL_law_383 (by decide) (jr_drop (jle_same (jle_same (jle_same (jle_same (jle_same (jle_drop (jle_drop (jle_same (jle_same jle_nil))))))))) (kk w3 h3))
  refine jr_if_ne hm1 (tgt := 383) dL_law_368 (by decide) (fun _ => fin) (fun z => ?_)
  refine jr_aload_n hm1 (i := 3) rfl rfl dL_law_371 ?_
  refine jr_iconst hm1 (v := 0) (by decide) dL_law_372 ?_
  refine jr_laload hm1 ja_63 (show vp_in (nI 0) 1 from vp_in_nI (by omega) (by omega)) dL_law_373 ?_
  refine jr_iload hm1 (i := 6) rfl dL_law_374 ?_
  refine jr_i2l hm1 dL_law_376 ?_
  refine jr_lcmp hm1 dL_law_377 ?_
  exact jr_if_eq hm1 (tgt := 383) dL_law_378 (by decide) (fun _ => fin) (fun z2 => absurd ((lg_cmp0 _ _).mpr (h2 z)) z2)
theorem lc_cave {C : JC} {cl sl : Nat} {Q : State → Prop} {w : JW} {b L : Nat} {xs : Nat → Int32} (hm : jok C ML_law 500 cl sl) (hm1 : jok C ML_law 500 (cl + 1) (sl + 6)) (hE : jLE C) (hS : jScr C b L xs) {i : Nat} (hi : 6 * i + 6 ≤ L) (hL : L ≤ 3072) (hI : jInv i w) (kk : ∀ w2, jInv (i + 1) w2 → jW C (cl + 1) (sl + 6) Q 1372 [jR 97 false, jR 0 false, jR 41 false, jR 63 false, jI (nI (6 * i)), jU, jU, jU, jU] [] w2) : jW C cl sl Q 386 [jR 97 false, jR 0 false, jR 41 false, jR 63 false, jI (nI (6 * i)), jU, jU, jU, jU] [] w := by
  have v1 : vp_in (nI (6 * i) + 1) L := jvi (k := 1) (by omega) hL
  have v2 : vp_in (nI (6 * i) + 2) L := jvi (k := 2) (by omega) hL
  obtain ⟨dw, dm, P, hdw, hdm, hs, hP⟩ := jop_cave hI (xs (nI (6 * i) + 1).toNatClampNeg) (xs (nI (6 * i) + 2).toNatClampNeg)
  refine jr_aload_n hm (i := 1) rfl rfl dL_law_386 ?_
  refine jr_aload_n hm (i := 0) rfl rfl dL_law_387 ?_
  refine jr_iload hm (i := 4) rfl dL_law_388 ?_
  refine jr_iconst hm (v := 1) (by decide) dL_law_390 ?_
  refine jr_iadd hm dL_law_391 ?_
  refine jl_sld hm hS v1 dL_law_392 ?_
  refine jr_aload_n hm (i := 0) rfl rfl dL_law_393 ?_
  refine jr_iload hm (i := 4) rfl dL_law_394 ?_
  refine jr_iconst hm (v := 2) (by decide) dL_law_396 ?_
  refine jr_iadd hm dL_law_397 ?_
  refine jl_sld hm hS v2 dL_law_398 ?_
  refine jr_aload_n hm (i := 3) rfl rfl dL_law_399 ?_
  refine jr_callSW (cl := cl) (sl := sl) (mc := 1) (ms := 6) (as := [jR 0 false, jI (xs (nI (6 * i) + 1).toNatClampNeg), jI (xs (nI (6 * i) + 2).toNatClampNeg), jR 63 false]) hm1 hE hs (by omega) jw_1083 jw_1084 jw_114 jw_1085 jn_L_cave rfl rfl (Nat.le_of_ble_eq_true rfl) rfl dL_law_400 (fun v w1 hp => ?_)
  obtain ⟨k, rfl, hM⟩ := hP v w1 hp
  refine jr_istore hm1 (i := 5) (Nat.le_of_ble_eq_true rfl) rfl dL_law_403 ?_
  refine jr_aload_n hm1 (i := 2) rfl rfl dL_law_405 ?_
  refine jr_aload_n hm1 (i := 0) rfl rfl dL_law_406 ?_
  refine jr_iload hm1 (i := 4) rfl dL_law_407 ?_
  refine jr_iconst hm1 (v := 1) (by decide) dL_law_409 ?_
  refine jr_iadd hm1 dL_law_410 ?_
  refine jl_sld hm1 hS v1 dL_law_411 ?_
  refine jr_aload_n hm1 (i := 0) rfl rfl dL_law_412 ?_
  refine jr_iload hm1 (i := 4) rfl dL_law_413 ?_
  refine jr_iconst hm1 (v := 2) (by decide) dL_law_415 ?_
  refine jr_iadd hm1 dL_law_416 ?_
  refine jl_sld hm1 hS v2 dL_law_417 ?_
  refine jr_callV (cl := cl + 1) (sl := sl + 6) (mc := 0) (ms := 0) (as := [jI (xs (nI (6 * i) + 1).toNatClampNeg), jI (xs (nI (6 * i) + 2).toNatClampNeg)]) hm1 hM (by omega) jw_1616 jw_1617 jw_1618 jw_125 jw_1619 jn_X11_cave rfl jo_41 (fun _ _ _ _ _ => ⟨_, rfl⟩) rfl rfl (Nat.le_of_ble_eq_true rfl) rfl dL_law_418 (fun v w2 hp2 => ?_)
  obtain ⟨r, rfl, h1, h2, h3⟩ := hp2
  refine jr_istore hm1 (i := 6) (Nat.le_of_ble_eq_true rfl) rfl dL_law_421 ?_
  refine jr_aload_n hm1 (i := 2) rfl rfl dL_law_423 ?_
  refine jr_callV (cl := cl + 1) (sl := sl + 6) (mc := 0) (ms := 0) (as := []) hm1 (c_thrown w2) (by decide) jw_1253 jw_1254 jw_1255 jw_125 jw_1256 jn_X11_thrown rfl jo_41 (fun _ _ _ _ _ => ⟨_, rfl⟩) rfl rfl (Nat.le_of_ble_eq_true rfl) rfl dL_law_424 (fun v w3 hp3 => ?_)
  obtain ⟨rfl, rfl⟩ := hp3
  refine jr_iload hm1 (i := 5) rfl dL_law_427 ?_
  refine jr_icmp_eq hm1 (tgt := 434) dL_law_429 (by decide) (fun _ => ?_) (fun z => absurd h1 z)
  refine jr_iload hm1 (i := 5) rfl dL_law_434 ?_
  have fin : jW C (cl + 1) (sl + 6) Q 451 [jR 97 false, jR 0 false, jR 41 false, jR 63 false, jI (nI (6 * i)), jI k, jI r, jU, jU] [] w3 := jr_goto hm1 (tgt := 1372) dL_law_451 (by decide) (jr_drop (jle_same (jle_same (jle_same (jle_same (jle_same (jle_drop (jle_drop (jle_same (jle_same jle_nil))))))))) (kk w3 h3))
  refine jr_if_ne hm1 (tgt := 451) dL_law_436 (by decide) (fun _ => fin) (fun z => ?_)
  refine jr_aload_n hm1 (i := 3) rfl rfl dL_law_439 ?_
  refine jr_iconst hm1 (v := 0) (by decide) dL_law_440 ?_
  refine jr_laload hm1 ja_63 (show vp_in (nI 0) 1 from vp_in_nI (by omega) (by omega)) dL_law_441 ?_
  refine jr_iload hm1 (i := 6) rfl dL_law_442 ?_
  refine jr_i2l hm1 dL_law_444 ?_
  refine jr_lcmp hm1 dL_law_445 ?_
  exact jr_if_eq hm1 (tgt := 451) dL_law_446 (by decide) (fun _ => fin) (fun z2 => absurd ((lg_cmp0 _ _).mpr (h2 z)) z2)
theorem lc_pipe {C : JC} {cl sl : Nat} {Q : State → Prop} {w : JW} {b L : Nat} {xs : Nat → Int32} (hm : jok C ML_law 500 cl sl) (hm1 : jok C ML_law 500 (cl + 1) (sl + 6)) (hE : jLE C) (hS : jScr C b L xs) {i : Nat} (hi : 6 * i + 6 ≤ L) (hL : L ≤ 3072) (hI : jInv i w) (kk : ∀ w2, jInv (i + 1) w2 → jW C (cl + 1) (sl + 6) Q 1372 [jR 97 false, jR 0 false, jR 41 false, jR 63 false, jI (nI (6 * i)), jU, jU, jU, jU] [] w2) : jW C cl sl Q 454 [jR 97 false, jR 0 false, jR 41 false, jR 63 false, jI (nI (6 * i)), jU, jU, jU, jU] [] w := by
  have v1 : vp_in (nI (6 * i) + 1) L := jvi (k := 1) (by omega) hL
  have v2 : vp_in (nI (6 * i) + 2) L := jvi (k := 2) (by omega) hL
  obtain ⟨dw, dm, P, hdw, hdm, hs, hP⟩ := jop_pipe hI (xs (nI (6 * i) + 1).toNatClampNeg) (xs (nI (6 * i) + 2).toNatClampNeg)
  refine jr_aload_n hm (i := 1) rfl rfl dL_law_454 ?_
  refine jr_aload_n hm (i := 0) rfl rfl dL_law_455 ?_
  refine jr_iload hm (i := 4) rfl dL_law_456 ?_
  refine jr_iconst hm (v := 1) (by decide) dL_law_458 ?_
  refine jr_iadd hm dL_law_459 ?_
  refine jl_sld hm hS v1 dL_law_460 ?_
  refine jr_aload_n hm (i := 0) rfl rfl dL_law_461 ?_
  refine jr_iload hm (i := 4) rfl dL_law_462 ?_
  refine jr_iconst hm (v := 2) (by decide) dL_law_464 ?_
  refine jr_iadd hm dL_law_465 ?_
  refine jl_sld hm hS v2 dL_law_466 ?_
  refine jr_aload_n hm (i := 3) rfl rfl dL_law_467 ?_
  refine jr_callSW (cl := cl) (sl := sl) (mc := 1) (ms := 6) (as := [jR 0 false, jI (xs (nI (6 * i) + 1).toNatClampNeg), jI (xs (nI (6 * i) + 2).toNatClampNeg), jR 63 false]) hm1 hE hs (by omega) jw_1091 jw_1092 jw_114 jw_1093 jn_L_pipe rfl rfl (Nat.le_of_ble_eq_true rfl) rfl dL_law_468 (fun v w1 hp => ?_)
  obtain ⟨k, rfl, hM⟩ := hP v w1 hp
  refine jr_istore hm1 (i := 5) (Nat.le_of_ble_eq_true rfl) rfl dL_law_471 ?_
  refine jr_aload_n hm1 (i := 2) rfl rfl dL_law_473 ?_
  refine jr_aload_n hm1 (i := 0) rfl rfl dL_law_474 ?_
  refine jr_iload hm1 (i := 4) rfl dL_law_475 ?_
  refine jr_iconst hm1 (v := 1) (by decide) dL_law_477 ?_
  refine jr_iadd hm1 dL_law_478 ?_
  refine jl_sld hm1 hS v1 dL_law_479 ?_
  refine jr_aload_n hm1 (i := 0) rfl rfl dL_law_480 ?_
  refine jr_iload hm1 (i := 4) rfl dL_law_481 ?_
  refine jr_iconst hm1 (v := 2) (by decide) dL_law_483 ?_
  refine jr_iadd hm1 dL_law_484 ?_
  refine jl_sld hm1 hS v2 dL_law_485 ?_
  refine jr_callV (cl := cl + 1) (sl := sl + 6) (mc := 0) (ms := 0) (as := [jI (xs (nI (6 * i) + 1).toNatClampNeg), jI (xs (nI (6 * i) + 2).toNatClampNeg)]) hm1 hM (by omega) jw_1652 jw_1653 jw_1654 jw_125 jw_1655 jn_X11_pipe rfl jo_41 (fun _ _ _ _ _ => ⟨_, rfl⟩) rfl rfl (Nat.le_of_ble_eq_true rfl) rfl dL_law_486 (fun v w2 hp2 => ?_)
  obtain ⟨r, rfl, h1, h2, h3⟩ := hp2
  refine jr_istore hm1 (i := 6) (Nat.le_of_ble_eq_true rfl) rfl dL_law_489 ?_
  refine jr_aload_n hm1 (i := 2) rfl rfl dL_law_491 ?_
  refine jr_callV (cl := cl + 1) (sl := sl + 6) (mc := 0) (ms := 0) (as := []) hm1 (c_thrown w2) (by decide) jw_1253 jw_1254 jw_1255 jw_125 jw_1256 jn_X11_thrown rfl jo_41 (fun _ _ _ _ _ => ⟨_, rfl⟩) rfl rfl (Nat.le_of_ble_eq_true rfl) rfl dL_law_492 (fun v w3 hp3 => ?_)
  obtain ⟨rfl, rfl⟩ := hp3
  refine jr_iload hm1 (i := 5) rfl dL_law_495 ?_
  refine jr_icmp_eq hm1 (tgt := 502) dL_law_497 (by decide) (fun _ => ?_) (fun z => absurd h1 z)
  refine jr_iload hm1 (i := 5) rfl dL_law_502 ?_
  have fin : jW C (cl + 1) (sl + 6) Q 519 [jR 97 false, jR 0 false, jR 41 false, jR 63 false, jI (nI (6 * i)), jI k, jI r, jU, jU] [] w3 := jr_goto hm1 (tgt := 1372) dL_law_519 (by decide) (jr_drop (jle_same (jle_same (jle_same (jle_same (jle_same (jle_drop (jle_drop (jle_same (jle_same jle_nil))))))))) (kk w3 h3))
  refine jr_if_ne hm1 (tgt := 519) dL_law_504 (by decide) (fun _ => fin) (fun z => ?_)
  refine jr_aload_n hm1 (i := 3) rfl rfl dL_law_507 ?_
  refine jr_iconst hm1 (v := 0) (by decide) dL_law_508 ?_
  refine jr_laload hm1 ja_63 (show vp_in (nI 0) 1 from vp_in_nI (by omega) (by omega)) dL_law_509 ?_
  refine jr_iload hm1 (i := 6) rfl dL_law_510 ?_
  refine jr_i2l hm1 dL_law_512 ?_
  refine jr_lcmp hm1 dL_law_513 ?_
  exact jr_if_eq hm1 (tgt := 519) dL_law_514 (by decide) (fun _ => fin) (fun z2 => absurd ((lg_cmp0 _ _).mpr (h2 z)) z2)
theorem lc_chord {C : JC} {cl sl : Nat} {Q : State → Prop} {w : JW} {b L : Nat} {xs : Nat → Int32} (hm : jok C ML_law 500 cl sl) (hm1 : jok C ML_law 500 (cl + 1) (sl + 6)) (hE : jLE C) (hS : jScr C b L xs) {i : Nat} (hi : 6 * i + 6 ≤ L) (hL : L ≤ 3072) (hI : jInv i w) (kk : ∀ w2, jInv (i + 1) w2 → jW C (cl + 1) (sl + 6) Q 1372 [jR 97 false, jR 0 false, jR 41 false, jR 63 false, jI (nI (6 * i)), jU, jU, jU, jU] [] w2) : jW C cl sl Q 522 [jR 97 false, jR 0 false, jR 41 false, jR 63 false, jI (nI (6 * i)), jU, jU, jU, jU] [] w := by
  have v1 : vp_in (nI (6 * i) + 1) L := jvi (k := 1) (by omega) hL
  have v2 : vp_in (nI (6 * i) + 2) L := jvi (k := 2) (by omega) hL
  obtain ⟨dw, dm, P, hdw, hdm, hs, hP⟩ := jop_chord hI (xs (nI (6 * i) + 1).toNatClampNeg) (xs (nI (6 * i) + 2).toNatClampNeg)
  refine jr_aload_n hm (i := 1) rfl rfl dL_law_522 ?_
  refine jr_aload_n hm (i := 0) rfl rfl dL_law_523 ?_
  refine jr_iload hm (i := 4) rfl dL_law_524 ?_
  refine jr_iconst hm (v := 1) (by decide) dL_law_526 ?_
  refine jr_iadd hm dL_law_527 ?_
  refine jl_sld hm hS v1 dL_law_528 ?_
  refine jr_aload_n hm (i := 0) rfl rfl dL_law_529 ?_
  refine jr_iload hm (i := 4) rfl dL_law_530 ?_
  refine jr_iconst hm (v := 2) (by decide) dL_law_532 ?_
  refine jr_iadd hm dL_law_533 ?_
  refine jl_sld hm hS v2 dL_law_534 ?_
  refine jr_aload_n hm (i := 3) rfl rfl dL_law_535 ?_
  refine jr_callSW (cl := cl) (sl := sl) (mc := 1) (ms := 6) (as := [jR 0 false, jI (xs (nI (6 * i) + 1).toNatClampNeg), jI (xs (nI (6 * i) + 2).toNatClampNeg), jR 63 false]) hm1 hE hs (by omega) jw_1103 jw_1104 jw_114 jw_1105 jn_L_chord rfl rfl (Nat.le_of_ble_eq_true rfl) rfl dL_law_536 (fun v w1 hp => ?_)
  obtain ⟨k, rfl, hM⟩ := hP v w1 hp
  refine jr_istore hm1 (i := 5) (Nat.le_of_ble_eq_true rfl) rfl dL_law_539 ?_
  refine jr_aload_n hm1 (i := 2) rfl rfl dL_law_541 ?_
  refine jr_aload_n hm1 (i := 0) rfl rfl dL_law_542 ?_
  refine jr_iload hm1 (i := 4) rfl dL_law_543 ?_
  refine jr_iconst hm1 (v := 1) (by decide) dL_law_545 ?_
  refine jr_iadd hm1 dL_law_546 ?_
  refine jl_sld hm1 hS v1 dL_law_547 ?_
  refine jr_aload_n hm1 (i := 0) rfl rfl dL_law_548 ?_
  refine jr_iload hm1 (i := 4) rfl dL_law_549 ?_
  refine jr_iconst hm1 (v := 2) (by decide) dL_law_551 ?_
  refine jr_iadd hm1 dL_law_552 ?_
  refine jl_sld hm1 hS v2 dL_law_553 ?_
  refine jr_callV (cl := cl + 1) (sl := sl + 6) (mc := 0) (ms := 0) (as := [jI (xs (nI (6 * i) + 1).toNatClampNeg), jI (xs (nI (6 * i) + 2).toNatClampNeg)]) hm1 hM (by omega) jw_1676 jw_1677 jw_1678 jw_125 jw_1679 jn_X11_chord rfl jo_41 (fun _ _ _ _ _ => ⟨_, rfl⟩) rfl rfl (Nat.le_of_ble_eq_true rfl) rfl dL_law_554 (fun v w2 hp2 => ?_)
  obtain ⟨r, rfl, h1, h2, h3⟩ := hp2
  refine jr_istore hm1 (i := 6) (Nat.le_of_ble_eq_true rfl) rfl dL_law_557 ?_
  refine jr_aload_n hm1 (i := 2) rfl rfl dL_law_559 ?_
  refine jr_callV (cl := cl + 1) (sl := sl + 6) (mc := 0) (ms := 0) (as := []) hm1 (c_thrown w2) (by decide) jw_1253 jw_1254 jw_1255 jw_125 jw_1256 jn_X11_thrown rfl jo_41 (fun _ _ _ _ _ => ⟨_, rfl⟩) rfl rfl (Nat.le_of_ble_eq_true rfl) rfl dL_law_560 (fun v w3 hp3 => ?_)
  obtain ⟨rfl, rfl⟩ := hp3
  refine jr_iload hm1 (i := 5) rfl dL_law_563 ?_
  refine jr_icmp_eq hm1 (tgt := 570) dL_law_565 (by decide) (fun _ => ?_) (fun z => absurd h1 z)
  refine jr_iload hm1 (i := 5) rfl dL_law_570 ?_
  have fin : jW C (cl + 1) (sl + 6) Q 587 [jR 97 false, jR 0 false, jR 41 false, jR 63 false, jI (nI (6 * i)), jI k, jI r, jU, jU] [] w3 := jr_goto hm1 (tgt := 1372) dL_law_587 (by decide) (jr_drop (jle_same (jle_same (jle_same (jle_same (jle_same (jle_drop (jle_drop (jle_same (jle_same jle_nil))))))))) (kk w3 h3))
  refine jr_if_ne hm1 (tgt := 587) dL_law_572 (by decide) (fun _ => fin) (fun z => ?_)
  refine jr_aload_n hm1 (i := 3) rfl rfl dL_law_575 ?_
  refine jr_iconst hm1 (v := 0) (by decide) dL_law_576 ?_
  refine jr_laload hm1 ja_63 (show vp_in (nI 0) 1 from vp_in_nI (by omega) (by omega)) dL_law_577 ?_
  refine jr_iload hm1 (i := 6) rfl dL_law_578 ?_
  refine jr_i2l hm1 dL_law_580 ?_
  refine jr_lcmp hm1 dL_law_581 ?_
  exact jr_if_eq hm1 (tgt := 587) dL_law_582 (by decide) (fun _ => fin) (fun z2 => absurd ((lg_cmp0 _ _).mpr (h2 z)) z2)
theorem lc_note {C : JC} {cl sl : Nat} {Q : State → Prop} {w : JW} {b L : Nat} {xs : Nat → Int32} (hm : jok C ML_law 500 cl sl) (hm1 : jok C ML_law 500 (cl + 1) (sl + 6)) (hE : jLE C) (hS : jScr C b L xs) {i : Nat} (hi : 6 * i + 6 ≤ L) (hL : L ≤ 3072) (hI : jInv i w) (kk : ∀ w2, jInv (i + 1) w2 → jW C (cl + 1) (sl + 6) Q 1372 [jR 97 false, jR 0 false, jR 41 false, jR 63 false, jI (nI (6 * i)), jU, jU, jU, jU] [] w2) : jW C cl sl Q 590 [jR 97 false, jR 0 false, jR 41 false, jR 63 false, jI (nI (6 * i)), jU, jU, jU, jU] [] w := by
  have v1 : vp_in (nI (6 * i) + 1) L := jvi (k := 1) (by omega) hL
  have v2 : vp_in (nI (6 * i) + 2) L := jvi (k := 2) (by omega) hL
  obtain ⟨dw, dm, P, hdw, hdm, hs, hP⟩ := jop_note hI (xs (nI (6 * i) + 1).toNatClampNeg) (xs (nI (6 * i) + 2).toNatClampNeg)
  refine jr_aload_n hm (i := 1) rfl rfl dL_law_590 ?_
  refine jr_aload_n hm (i := 0) rfl rfl dL_law_591 ?_
  refine jr_iload hm (i := 4) rfl dL_law_592 ?_
  refine jr_iconst hm (v := 1) (by decide) dL_law_594 ?_
  refine jr_iadd hm dL_law_595 ?_
  refine jl_sld hm hS v1 dL_law_596 ?_
  refine jr_aload_n hm (i := 0) rfl rfl dL_law_597 ?_
  refine jr_iload hm (i := 4) rfl dL_law_598 ?_
  refine jr_iconst hm (v := 2) (by decide) dL_law_600 ?_
  refine jr_iadd hm dL_law_601 ?_
  refine jl_sld hm hS v2 dL_law_602 ?_
  refine jr_aload_n hm (i := 3) rfl rfl dL_law_603 ?_
  refine jr_callSW (cl := cl) (sl := sl) (mc := 1) (ms := 6) (as := [jR 0 false, jI (xs (nI (6 * i) + 1).toNatClampNeg), jI (xs (nI (6 * i) + 2).toNatClampNeg), jR 63 false]) hm1 hE hs (by omega) jw_1111 jw_1112 jw_114 jw_1113 jn_L_note rfl rfl (Nat.le_of_ble_eq_true rfl) rfl dL_law_604 (fun v w1 hp => ?_)
  obtain ⟨k, rfl, hM⟩ := hP v w1 hp
  refine jr_istore hm1 (i := 5) (Nat.le_of_ble_eq_true rfl) rfl dL_law_607 ?_
  refine jr_aload_n hm1 (i := 2) rfl rfl dL_law_609 ?_
  refine jr_aload_n hm1 (i := 0) rfl rfl dL_law_610 ?_
  refine jr_iload hm1 (i := 4) rfl dL_law_611 ?_
  refine jr_iconst hm1 (v := 1) (by decide) dL_law_613 ?_
  refine jr_iadd hm1 dL_law_614 ?_
  refine jl_sld hm1 hS v1 dL_law_615 ?_
  refine jr_aload_n hm1 (i := 0) rfl rfl dL_law_616 ?_
  refine jr_iload hm1 (i := 4) rfl dL_law_617 ?_
  refine jr_iconst hm1 (v := 2) (by decide) dL_law_619 ?_
  refine jr_iadd hm1 dL_law_620 ?_
  refine jl_sld hm1 hS v2 dL_law_621 ?_
  refine jr_callV (cl := cl + 1) (sl := sl + 6) (mc := 0) (ms := 0) (as := [jI (xs (nI (6 * i) + 1).toNatClampNeg), jI (xs (nI (6 * i) + 2).toNatClampNeg)]) hm1 hM (by omega) jw_1692 jw_1693 jw_1694 jw_125 jw_1695 jn_X11_note rfl jo_41 (fun _ _ _ _ _ => ⟨_, rfl⟩) rfl rfl (Nat.le_of_ble_eq_true rfl) rfl dL_law_622 (fun v w2 hp2 => ?_)
  obtain ⟨r, rfl, h1, h2, h3⟩ := hp2
  refine jr_istore hm1 (i := 6) (Nat.le_of_ble_eq_true rfl) rfl dL_law_625 ?_
  refine jr_aload_n hm1 (i := 2) rfl rfl dL_law_627 ?_
  refine jr_callV (cl := cl + 1) (sl := sl + 6) (mc := 0) (ms := 0) (as := []) hm1 (c_thrown w2) (by decide) jw_1253 jw_1254 jw_1255 jw_125 jw_1256 jn_X11_thrown rfl jo_41 (fun _ _ _ _ _ => ⟨_, rfl⟩) rfl rfl (Nat.le_of_ble_eq_true rfl) rfl dL_law_628 (fun v w3 hp3 => ?_)
  obtain ⟨rfl, rfl⟩ := hp3
  refine jr_iload hm1 (i := 5) rfl dL_law_631 ?_
  refine jr_icmp_eq hm1 (tgt := 638) dL_law_633 (by decide) (fun _ => ?_) (fun z => absurd h1 z)
  refine jr_iload hm1 (i := 5) rfl dL_law_638 ?_
  have fin : jW C (cl + 1) (sl + 6) Q 655 [jR 97 false, jR 0 false, jR 41 false, jR 63 false, jI (nI (6 * i)), jI k, jI r, jU, jU] [] w3 := jr_goto hm1 (tgt := 1372) dL_law_655 (by decide) (jr_drop (jle_same (jle_same (jle_same (jle_same (jle_same (jle_drop (jle_drop (jle_same (jle_same jle_nil))))))))) (kk w3 h3))
  refine jr_if_ne hm1 (tgt := 655) dL_law_640 (by decide) (fun _ => fin) (fun z => ?_)
  refine jr_aload_n hm1 (i := 3) rfl rfl dL_law_643 ?_
  refine jr_iconst hm1 (v := 0) (by decide) dL_law_644 ?_
  refine jr_laload hm1 ja_63 (show vp_in (nI 0) 1 from vp_in_nI (by omega) (by omega)) dL_law_645 ?_
  refine jr_iload hm1 (i := 6) rfl dL_law_646 ?_
  refine jr_i2l hm1 dL_law_648 ?_
  refine jr_lcmp hm1 dL_law_649 ?_
  exact jr_if_eq hm1 (tgt := 655) dL_law_650 (by decide) (fun _ => fin) (fun z2 => absurd ((lg_cmp0 _ _).mpr (h2 z)) z2)
theorem lc_apart {C : JC} {cl sl : Nat} {Q : State → Prop} {w : JW} {b L : Nat} {xs : Nat → Int32} (hm : jok C ML_law 500 cl sl) (hm1 : jok C ML_law 500 (cl + 1) (sl + 6)) (hE : jLE C) (hS : jScr C b L xs) {i : Nat} (hi : 6 * i + 6 ≤ L) (hL : L ≤ 3072) (hI : jInv i w) (kk : ∀ w2, jInv (i + 1) w2 → jW C (cl + 1) (sl + 6) Q 1372 [jR 97 false, jR 0 false, jR 41 false, jR 63 false, jI (nI (6 * i)), jU, jU, jU, jU] [] w2) : jW C cl sl Q 658 [jR 97 false, jR 0 false, jR 41 false, jR 63 false, jI (nI (6 * i)), jU, jU, jU, jU] [] w := by
  have v1 : vp_in (nI (6 * i) + 1) L := jvi (k := 1) (by omega) hL
  have v2 : vp_in (nI (6 * i) + 2) L := jvi (k := 2) (by omega) hL
  obtain ⟨dw, dm, P, hdw, hdm, hs, hP⟩ := jop_apart hI (xs (nI (6 * i) + 1).toNatClampNeg) (xs (nI (6 * i) + 2).toNatClampNeg)
  refine jr_aload_n hm (i := 1) rfl rfl dL_law_658 ?_
  refine jr_aload_n hm (i := 0) rfl rfl dL_law_659 ?_
  refine jr_iload hm (i := 4) rfl dL_law_660 ?_
  refine jr_iconst hm (v := 1) (by decide) dL_law_662 ?_
  refine jr_iadd hm dL_law_663 ?_
  refine jl_sld hm hS v1 dL_law_664 ?_
  refine jr_aload_n hm (i := 0) rfl rfl dL_law_665 ?_
  refine jr_iload hm (i := 4) rfl dL_law_666 ?_
  refine jr_iconst hm (v := 2) (by decide) dL_law_668 ?_
  refine jr_iadd hm dL_law_669 ?_
  refine jl_sld hm hS v2 dL_law_670 ?_
  refine jr_aload_n hm (i := 3) rfl rfl dL_law_671 ?_
  refine jr_callSW (cl := cl) (sl := sl) (mc := 1) (ms := 6) (as := [jR 0 false, jI (xs (nI (6 * i) + 1).toNatClampNeg), jI (xs (nI (6 * i) + 2).toNatClampNeg), jR 63 false]) hm1 hE hs (by omega) jw_1119 jw_1120 jw_114 jw_1121 jn_L_apart rfl rfl (Nat.le_of_ble_eq_true rfl) rfl dL_law_672 (fun v w1 hp => ?_)
  obtain ⟨k, rfl, hM⟩ := hP v w1 hp
  refine jr_istore hm1 (i := 5) (Nat.le_of_ble_eq_true rfl) rfl dL_law_675 ?_
  refine jr_aload_n hm1 (i := 2) rfl rfl dL_law_677 ?_
  refine jr_aload_n hm1 (i := 0) rfl rfl dL_law_678 ?_
  refine jr_iload hm1 (i := 4) rfl dL_law_679 ?_
  refine jr_iconst hm1 (v := 1) (by decide) dL_law_681 ?_
  refine jr_iadd hm1 dL_law_682 ?_
  refine jl_sld hm1 hS v1 dL_law_683 ?_
  refine jr_aload_n hm1 (i := 0) rfl rfl dL_law_684 ?_
  refine jr_iload hm1 (i := 4) rfl dL_law_685 ?_
  refine jr_iconst hm1 (v := 2) (by decide) dL_law_687 ?_
  refine jr_iadd hm1 dL_law_688 ?_
  refine jl_sld hm1 hS v2 dL_law_689 ?_
  refine jr_callV (cl := cl + 1) (sl := sl + 6) (mc := 0) (ms := 0) (as := [jI (xs (nI (6 * i) + 1).toNatClampNeg), jI (xs (nI (6 * i) + 2).toNatClampNeg)]) hm1 hM (by omega) jw_1696 jw_1697 jw_1698 jw_125 jw_1699 jn_X11_apart rfl jo_41 (fun _ _ _ _ _ => ⟨_, rfl⟩) rfl rfl (Nat.le_of_ble_eq_true rfl) rfl dL_law_690 (fun v w2 hp2 => ?_)
  obtain ⟨r, rfl, h1, h2, h3⟩ := hp2
  refine jr_istore hm1 (i := 6) (Nat.le_of_ble_eq_true rfl) rfl dL_law_693 ?_
  refine jr_aload_n hm1 (i := 2) rfl rfl dL_law_695 ?_
  refine jr_callV (cl := cl + 1) (sl := sl + 6) (mc := 0) (ms := 0) (as := []) hm1 (c_thrown w2) (by decide) jw_1253 jw_1254 jw_1255 jw_125 jw_1256 jn_X11_thrown rfl jo_41 (fun _ _ _ _ _ => ⟨_, rfl⟩) rfl rfl (Nat.le_of_ble_eq_true rfl) rfl dL_law_696 (fun v w3 hp3 => ?_)
  obtain ⟨rfl, rfl⟩ := hp3
  refine jr_iload hm1 (i := 5) rfl dL_law_699 ?_
  refine jr_icmp_eq hm1 (tgt := 706) dL_law_701 (by decide) (fun _ => ?_) (fun z => absurd h1 z)
  refine jr_iload hm1 (i := 5) rfl dL_law_706 ?_
  have fin : jW C (cl + 1) (sl + 6) Q 723 [jR 97 false, jR 0 false, jR 41 false, jR 63 false, jI (nI (6 * i)), jI k, jI r, jU, jU] [] w3 := jr_goto hm1 (tgt := 1372) dL_law_723 (by decide) (jr_drop (jle_same (jle_same (jle_same (jle_same (jle_same (jle_drop (jle_drop (jle_same (jle_same jle_nil))))))))) (kk w3 h3))
  refine jr_if_ne hm1 (tgt := 723) dL_law_708 (by decide) (fun _ => fin) (fun z => ?_)
  refine jr_aload_n hm1 (i := 3) rfl rfl dL_law_711 ?_
  refine jr_iconst hm1 (v := 0) (by decide) dL_law_712 ?_
  refine jr_laload hm1 ja_63 (show vp_in (nI 0) 1 from vp_in_nI (by omega) (by omega)) dL_law_713 ?_
  refine jr_iload hm1 (i := 6) rfl dL_law_714 ?_
  refine jr_i2l hm1 dL_law_716 ?_
  refine jr_lcmp hm1 dL_law_717 ?_
  exact jr_if_eq hm1 (tgt := 723) dL_law_718 (by decide) (fun _ => fin) (fun z2 => absurd ((lg_cmp0 _ _).mpr (h2 z)) z2)
theorem lc_height {C : JC} {cl sl : Nat} {Q : State → Prop} {w : JW} {b L : Nat} {xs : Nat → Int32} (hm : jok C ML_law 500 cl sl) (hm1 : jok C ML_law 500 (cl + 1) (sl + 6)) (hE : jLE C) (hS : jScr C b L xs) {i : Nat} (hi : 6 * i + 6 ≤ L) (hL : L ≤ 3072) (hI : jInv i w) (kk : ∀ w2, jInv (i + 1) w2 → jW C (cl + 1) (sl + 6) Q 1372 [jR 97 false, jR 0 false, jR 41 false, jR 63 false, jI (nI (6 * i)), jU, jU, jU, jU] [] w2) : jW C cl sl Q 726 [jR 97 false, jR 0 false, jR 41 false, jR 63 false, jI (nI (6 * i)), jU, jU, jU, jU] [] w := by
  have v1 : vp_in (nI (6 * i) + 1) L := jvi (k := 1) (by omega) hL
  obtain ⟨dw, dm, P, hdw, hdm, hs, hP⟩ := jop_height hI (xs (nI (6 * i) + 1).toNatClampNeg)
  refine jr_aload_n hm (i := 1) rfl rfl dL_law_726 ?_
  refine jr_aload_n hm (i := 0) rfl rfl dL_law_727 ?_
  refine jr_iload hm (i := 4) rfl dL_law_728 ?_
  refine jr_iconst hm (v := 1) (by decide) dL_law_730 ?_
  refine jr_iadd hm dL_law_731 ?_
  refine jl_sld hm hS v1 dL_law_732 ?_
  refine jr_aload_n hm (i := 3) rfl rfl dL_law_733 ?_
  refine jr_callSW (cl := cl) (sl := sl) (mc := 1) (ms := 6) (as := [jR 0 false, jI (xs (nI (6 * i) + 1).toNatClampNeg), jR 63 false]) hm1 hE hs (by omega) jw_1130 jw_1131 jw_114 jw_1132 jn_L_height rfl rfl (Nat.le_of_ble_eq_true rfl) rfl dL_law_734 (fun v w1 hp => ?_)
  obtain ⟨k, rfl, hM⟩ := hP v w1 hp
  refine jr_istore hm1 (i := 5) (Nat.le_of_ble_eq_true rfl) rfl dL_law_737 ?_
  refine jr_aload_n hm1 (i := 2) rfl rfl dL_law_739 ?_
  refine jr_aload_n hm1 (i := 0) rfl rfl dL_law_740 ?_
  refine jr_iload hm1 (i := 4) rfl dL_law_741 ?_
  refine jr_iconst hm1 (v := 1) (by decide) dL_law_743 ?_
  refine jr_iadd hm1 dL_law_744 ?_
  refine jl_sld hm1 hS v1 dL_law_745 ?_
  refine jr_callV (cl := cl + 1) (sl := sl + 6) (mc := 0) (ms := 0) (as := [jI (xs (nI (6 * i) + 1).toNatClampNeg)]) hm1 hM (by omega) jw_1700 jw_1701 jw_1702 jw_125 jw_1703 jn_X11_height rfl jo_41 (fun _ _ _ _ _ => ⟨_, rfl⟩) rfl rfl (Nat.le_of_ble_eq_true rfl) rfl dL_law_746 (fun v w2 hp2 => ?_)
  obtain ⟨r, rfl, h1, h2, h3⟩ := hp2
  refine jr_istore hm1 (i := 6) (Nat.le_of_ble_eq_true rfl) rfl dL_law_749 ?_
  refine jr_aload_n hm1 (i := 2) rfl rfl dL_law_751 ?_
  refine jr_callV (cl := cl + 1) (sl := sl + 6) (mc := 0) (ms := 0) (as := []) hm1 (c_thrown w2) (by decide) jw_1253 jw_1254 jw_1255 jw_125 jw_1256 jn_X11_thrown rfl jo_41 (fun _ _ _ _ _ => ⟨_, rfl⟩) rfl rfl (Nat.le_of_ble_eq_true rfl) rfl dL_law_752 (fun v w3 hp3 => ?_)
  obtain ⟨rfl, rfl⟩ := hp3
  refine jr_iload hm1 (i := 5) rfl dL_law_755 ?_
  refine jr_icmp_eq hm1 (tgt := 762) dL_law_757 (by decide) (fun _ => ?_) (fun z => absurd h1 z)
  refine jr_iload hm1 (i := 5) rfl dL_law_762 ?_
  have fin : jW C (cl + 1) (sl + 6) Q 779 [jR 97 false, jR 0 false, jR 41 false, jR 63 false, jI (nI (6 * i)), jI k, jI r, jU, jU] [] w3 := jr_goto hm1 (tgt := 1372) dL_law_779 (by decide) (jr_drop (jle_same (jle_same (jle_same (jle_same (jle_same (jle_drop (jle_drop (jle_same (jle_same jle_nil))))))))) (kk w3 h3))
  refine jr_if_ne hm1 (tgt := 779) dL_law_764 (by decide) (fun _ => fin) (fun z => ?_)
  refine jr_aload_n hm1 (i := 3) rfl rfl dL_law_767 ?_
  refine jr_iconst hm1 (v := 0) (by decide) dL_law_768 ?_
  refine jr_laload hm1 ja_63 (show vp_in (nI 0) 1 from vp_in_nI (by omega) (by omega)) dL_law_769 ?_
  refine jr_iload hm1 (i := 6) rfl dL_law_770 ?_
  refine jr_i2l hm1 dL_law_772 ?_
  refine jr_lcmp hm1 dL_law_773 ?_
  exact jr_if_eq hm1 (tgt := 779) dL_law_774 (by decide) (fun _ => fin) (fun z2 => absurd ((lg_cmp0 _ _).mpr (h2 z)) z2)
theorem lc_isSilent {C : JC} {cl sl : Nat} {Q : State → Prop} {w : JW} {b L : Nat} {xs : Nat → Int32} (hm : jok C ML_law 500 cl sl) (hm1 : jok C ML_law 500 (cl + 1) (sl + 6)) (hE : jLE C) (hS : jScr C b L xs) {i : Nat} (hi : 6 * i + 6 ≤ L) (hL : L ≤ 3072) (hI : jInv i w) (kk : ∀ w2, jInv (i + 1) w2 → jW C (cl + 1) (sl + 6) Q 1372 [jR 97 false, jR 0 false, jR 41 false, jR 63 false, jI (nI (6 * i)), jU, jU, jU, jU] [] w2) : jW C cl sl Q 782 [jR 97 false, jR 0 false, jR 41 false, jR 63 false, jI (nI (6 * i)), jU, jU, jU, jU] [] w := by
  have v1 : vp_in (nI (6 * i) + 1) L := jvi (k := 1) (by omega) hL
  obtain ⟨dw, dm, P, hdw, hdm, hs, hP⟩ := jop_isSilent hI (xs (nI (6 * i) + 1).toNatClampNeg)
  refine jr_aload_n hm (i := 1) rfl rfl dL_law_782 ?_
  refine jr_aload_n hm (i := 0) rfl rfl dL_law_783 ?_
  refine jr_iload hm (i := 4) rfl dL_law_784 ?_
  refine jr_iconst hm (v := 1) (by decide) dL_law_786 ?_
  refine jr_iadd hm dL_law_787 ?_
  refine jl_sld hm hS v1 dL_law_788 ?_
  refine jr_aload_n hm (i := 3) rfl rfl dL_law_789 ?_
  refine jr_callSW (cl := cl) (sl := sl) (mc := 1) (ms := 6) (as := [jR 0 false, jI (xs (nI (6 * i) + 1).toNatClampNeg), jR 63 false]) hm1 hE hs (by omega) jw_1138 jw_1139 jw_114 jw_1140 jn_L_isSilent rfl rfl (Nat.le_of_ble_eq_true rfl) rfl dL_law_790 (fun v w1 hp => ?_)
  obtain ⟨k, rfl, hM⟩ := hP v w1 hp
  refine jr_istore hm1 (i := 5) (Nat.le_of_ble_eq_true rfl) rfl dL_law_793 ?_
  refine jr_aload_n hm1 (i := 2) rfl rfl dL_law_795 ?_
  refine jr_aload_n hm1 (i := 0) rfl rfl dL_law_796 ?_
  refine jr_iload hm1 (i := 4) rfl dL_law_797 ?_
  refine jr_iconst hm1 (v := 1) (by decide) dL_law_799 ?_
  refine jr_iadd hm1 dL_law_800 ?_
  refine jl_sld hm1 hS v1 dL_law_801 ?_
  refine jr_callV (cl := cl + 1) (sl := sl + 6) (mc := 0) (ms := 0) (as := [jI (xs (nI (6 * i) + 1).toNatClampNeg)]) hm1 hM (by omega) jw_1708 jw_1709 jw_1710 jw_125 jw_1711 jn_X11_isSilent rfl jo_41 (fun _ _ _ _ _ => ⟨_, rfl⟩) rfl rfl (Nat.le_of_ble_eq_true rfl) rfl dL_law_802 (fun v w2 hp2 => ?_)
  obtain ⟨r, rfl, h01, h1, h2, h3⟩ := hp2
  refine jr_istore hm1 (i := 6) (Nat.le_of_ble_eq_true rfl) rfl dL_law_805 ?_
  refine jr_aload_n hm1 (i := 2) rfl rfl dL_law_807 ?_
  refine jr_callV (cl := cl + 1) (sl := sl + 6) (mc := 0) (ms := 0) (as := []) hm1 (c_thrown w2) (by decide) jw_1253 jw_1254 jw_1255 jw_125 jw_1256 jn_X11_thrown rfl jo_41 (fun _ _ _ _ _ => ⟨_, rfl⟩) rfl rfl (Nat.le_of_ble_eq_true rfl) rfl dL_law_808 (fun v w3 hp3 => ?_)
  obtain ⟨rfl, rfl⟩ := hp3
  refine jr_iload hm1 (i := 5) rfl dL_law_811 ?_
  refine jr_icmp_eq hm1 (tgt := 818) dL_law_813 (by decide) (fun _ => ?_) (fun z => absurd h1 z)
  refine jr_iload hm1 (i := 5) rfl dL_law_818 ?_
  have fin : jW C (cl + 1) (sl + 6) Q 842 [jR 97 false, jR 0 false, jR 41 false, jR 63 false, jI (nI (6 * i)), jI k, jI r, jU, jU] [] w3 := jr_goto hm1 (tgt := 1372) dL_law_842 (by decide) (jr_drop (jle_same (jle_same (jle_same (jle_same (jle_same (jle_drop (jle_drop (jle_same (jle_same jle_nil))))))))) (kk w3 h3))
  refine jr_if_ne hm1 (tgt := 842) dL_law_820 (by decide) (fun _ => fin) (fun z => ?_)
  refine jr_aload_n hm1 (i := 3) rfl rfl dL_law_823 ?_
  refine jr_iconst hm1 (v := 0) (by decide) dL_law_824 ?_
  refine jr_laload hm1 ja_63 (show vp_in (nI 0) 1 from vp_in_nI (by omega) (by omega)) dL_law_825 ?_
  refine jr_iload hm1 (i := 6) rfl dL_law_826 ?_
  rcases h01 with rfl | rfl
  · refine jr_if_eq hm1 (tgt := 835) dL_law_828 (by decide) (fun _ => ?_) (fun z2 => absurd rfl z2)
    refine jr_lconst hm1 (v := 0) (by decide) dL_law_835 ?_
    refine jr_lcmp hm1 dL_law_836 ?_
    exact jr_if_eq hm1 (tgt := 842) dL_law_837 (by decide) (fun _ => fin) (fun z2 => absurd ((lg_cmp0 _ _).mpr ((h2 z).trans (by decide))) z2)
  · refine jr_if_eq hm1 (tgt := 835) dL_law_828 (by decide) (fun z2 => absurd z2 (by decide)) (fun _ => ?_)
    refine jr_lconst hm1 (v := 1) (by decide) dL_law_831 ?_
    refine jr_goto hm1 (tgt := 836) dL_law_832 (by decide) ?_
    refine jr_lcmp hm1 dL_law_836 ?_
    exact jr_if_eq hm1 (tgt := 842) dL_law_837 (by decide) (fun _ => fin) (fun z2 => absurd ((lg_cmp0 _ _).mpr ((h2 z).trans (by decide))) z2)
theorem lc_setTide {C : JC} {cl sl : Nat} {Q : State → Prop} {w : JW} {b L : Nat} {xs : Nat → Int32} (hm : jok C ML_law 500 cl sl) (hm1 : jok C ML_law 500 (cl + 1) (sl + 6)) (hE : jLE C) (hS : jScr C b L xs) {i : Nat} (hi : 6 * i + 6 ≤ L) (hL : L ≤ 3072) (hI : jInv i w) (kk : ∀ w2, jInv (i + 1) w2 → jW C (cl + 1) (sl + 6) Q 1372 [jR 97 false, jR 0 false, jR 41 false, jR 63 false, jI (nI (6 * i)), jU, jU, jU, jU] [] w2) : jW C cl sl Q 845 [jR 97 false, jR 0 false, jR 41 false, jR 63 false, jI (nI (6 * i)), jU, jU, jU, jU] [] w := by
  have v1 : vp_in (nI (6 * i) + 1) L := jvi (k := 1) (by omega) hL
  obtain ⟨dw, dm, P, hdw, hdm, hs, hP⟩ := jop_setTide hI (xs (nI (6 * i) + 1).toNatClampNeg)
  refine jr_aload_n hm (i := 1) rfl rfl dL_law_845 ?_
  refine jr_aload_n hm (i := 0) rfl rfl dL_law_846 ?_
  refine jr_iload hm (i := 4) rfl dL_law_847 ?_
  refine jr_iconst hm (v := 1) (by decide) dL_law_849 ?_
  refine jr_iadd hm dL_law_850 ?_
  refine jl_sld hm hS v1 dL_law_851 ?_
  refine jr_aload_n hm (i := 3) rfl rfl dL_law_852 ?_
  refine jr_callSW (cl := cl) (sl := sl) (mc := 1) (ms := 6) (as := [jR 0 false, jI (xs (nI (6 * i) + 1).toNatClampNeg), jR 63 false]) hm1 hE hs (by omega) jw_1146 jw_1147 jw_114 jw_1148 jn_L_setTide rfl rfl (Nat.le_of_ble_eq_true rfl) rfl dL_law_853 (fun v w1 hp => ?_)
  obtain ⟨k, rfl, hM⟩ := hP v w1 hp
  refine jr_istore hm1 (i := 5) (Nat.le_of_ble_eq_true rfl) rfl dL_law_856 ?_
  refine jr_aload_n hm1 (i := 2) rfl rfl dL_law_858 ?_
  refine jr_aload_n hm1 (i := 0) rfl rfl dL_law_859 ?_
  refine jr_iload hm1 (i := 4) rfl dL_law_860 ?_
  refine jr_iconst hm1 (v := 1) (by decide) dL_law_862 ?_
  refine jr_iadd hm1 dL_law_863 ?_
  refine jl_sld hm1 hS v1 dL_law_864 ?_
  refine jr_callV (cl := cl + 1) (sl := sl + 6) (mc := 0) (ms := 0) (as := [jI (xs (nI (6 * i) + 1).toNatClampNeg)]) hm1 hM (by omega) jw_1712 jw_1713 jw_1714 jw_125 jw_1715 jn_X11_setTide rfl jo_41 (fun _ _ _ _ _ => ⟨_, rfl⟩) rfl rfl (Nat.le_of_ble_eq_true rfl) rfl dL_law_865 (fun v w2 hp2 => ?_)
  obtain ⟨r, rfl, h1, h2, h3⟩ := hp2
  refine jr_istore hm1 (i := 6) (Nat.le_of_ble_eq_true rfl) rfl dL_law_868 ?_
  refine jr_aload_n hm1 (i := 2) rfl rfl dL_law_870 ?_
  refine jr_callV (cl := cl + 1) (sl := sl + 6) (mc := 0) (ms := 0) (as := []) hm1 (c_thrown w2) (by decide) jw_1253 jw_1254 jw_1255 jw_125 jw_1256 jn_X11_thrown rfl jo_41 (fun _ _ _ _ _ => ⟨_, rfl⟩) rfl rfl (Nat.le_of_ble_eq_true rfl) rfl dL_law_871 (fun v w3 hp3 => ?_)
  obtain ⟨rfl, rfl⟩ := hp3
  refine jr_iload hm1 (i := 5) rfl dL_law_874 ?_
  refine jr_icmp_eq hm1 (tgt := 881) dL_law_876 (by decide) (fun _ => ?_) (fun z => absurd h1 z)
  refine jr_iload hm1 (i := 5) rfl dL_law_881 ?_
  have fin : jW C (cl + 1) (sl + 6) Q 898 [jR 97 false, jR 0 false, jR 41 false, jR 63 false, jI (nI (6 * i)), jI k, jI r, jU, jU] [] w3 := jr_goto hm1 (tgt := 1372) dL_law_898 (by decide) (jr_drop (jle_same (jle_same (jle_same (jle_same (jle_same (jle_drop (jle_drop (jle_same (jle_same jle_nil))))))))) (kk w3 h3))
  refine jr_if_ne hm1 (tgt := 898) dL_law_883 (by decide) (fun _ => fin) (fun z => ?_)
  refine jr_aload_n hm1 (i := 3) rfl rfl dL_law_886 ?_
  refine jr_iconst hm1 (v := 0) (by decide) dL_law_887 ?_
  refine jr_laload hm1 ja_63 (show vp_in (nI 0) 1 from vp_in_nI (by omega) (by omega)) dL_law_888 ?_
  refine jr_iload hm1 (i := 6) rfl dL_law_889 ?_
  refine jr_i2l hm1 dL_law_891 ?_
  refine jr_lcmp hm1 dL_law_892 ?_
  exact jr_if_eq hm1 (tgt := 898) dL_law_893 (by decide) (fun _ => fin) (fun z2 => absurd ((lg_cmp0 _ _).mpr (h2 z)) z2)
theorem lc_clean {C : JC} {cl sl : Nat} {Q : State → Prop} {w : JW} {b L : Nat} {xs : Nat → Int32} (hm : jok C ML_law 500 cl sl) (hm1 : jok C ML_law 500 (cl + 1) (sl + 6)) (hE : jLE C) (hS : jScr C b L xs) {i : Nat} (hi : 6 * i + 6 ≤ L) (hL : L ≤ 3072) (hI : jInv i w) (kk : ∀ w2, jInv (i + 1) w2 → jW C (cl + 1) (sl + 6) Q 1372 [jR 97 false, jR 0 false, jR 41 false, jR 63 false, jI (nI (6 * i)), jU, jU, jU, jU] [] w2) : jW C cl sl Q 901 [jR 97 false, jR 0 false, jR 41 false, jR 63 false, jI (nI (6 * i)), jU, jU, jU, jU] [] w := by
  have v1 : vp_in (nI (6 * i) + 1) L := jvi (k := 1) (by omega) hL
  obtain ⟨dw, dm, P, hdw, hdm, hs, hP⟩ := jop_clean hI (xs (nI (6 * i) + 1).toNatClampNeg)
  refine jr_aload_n hm (i := 1) rfl rfl dL_law_901 ?_
  refine jr_aload_n hm (i := 0) rfl rfl dL_law_902 ?_
  refine jr_iload hm (i := 4) rfl dL_law_903 ?_
  refine jr_iconst hm (v := 1) (by decide) dL_law_905 ?_
  refine jr_iadd hm dL_law_906 ?_
  refine jl_sld hm hS v1 dL_law_907 ?_
  refine jr_aload_n hm (i := 3) rfl rfl dL_law_908 ?_
  refine jr_callSW (cl := cl) (sl := sl) (mc := 1) (ms := 6) (as := [jR 0 false, jI (xs (nI (6 * i) + 1).toNatClampNeg), jR 63 false]) hm1 hE hs (by omega) jw_1154 jw_1155 jw_114 jw_1156 jn_L_clean rfl rfl (Nat.le_of_ble_eq_true rfl) rfl dL_law_909 (fun v w1 hp => ?_)
  obtain ⟨k, rfl, hM⟩ := hP v w1 hp
  refine jr_istore hm1 (i := 5) (Nat.le_of_ble_eq_true rfl) rfl dL_law_912 ?_
  refine jr_aload_n hm1 (i := 2) rfl rfl dL_law_914 ?_
  refine jr_aload_n hm1 (i := 0) rfl rfl dL_law_915 ?_
  refine jr_iload hm1 (i := 4) rfl dL_law_916 ?_
  refine jr_iconst hm1 (v := 1) (by decide) dL_law_918 ?_
  refine jr_iadd hm1 dL_law_919 ?_
  refine jl_sld hm1 hS v1 dL_law_920 ?_
  refine jr_callV (cl := cl + 1) (sl := sl + 6) (mc := 0) (ms := 0) (as := [jI (xs (nI (6 * i) + 1).toNatClampNeg)]) hm1 hM (by omega) jw_1720 jw_1721 jw_1722 jw_125 jw_1723 jn_X11_clean rfl jo_41 (fun _ _ _ _ _ => ⟨_, rfl⟩) rfl rfl (Nat.le_of_ble_eq_true rfl) rfl dL_law_921 (fun v w2 hp2 => ?_)
  obtain ⟨r, rfl, h1, h2, h3⟩ := hp2
  refine jr_istore hm1 (i := 6) (Nat.le_of_ble_eq_true rfl) rfl dL_law_924 ?_
  refine jr_aload_n hm1 (i := 2) rfl rfl dL_law_926 ?_
  refine jr_callV (cl := cl + 1) (sl := sl + 6) (mc := 0) (ms := 0) (as := []) hm1 (c_thrown w2) (by decide) jw_1253 jw_1254 jw_1255 jw_125 jw_1256 jn_X11_thrown rfl jo_41 (fun _ _ _ _ _ => ⟨_, rfl⟩) rfl rfl (Nat.le_of_ble_eq_true rfl) rfl dL_law_927 (fun v w3 hp3 => ?_)
  obtain ⟨rfl, rfl⟩ := hp3
  refine jr_iload hm1 (i := 5) rfl dL_law_930 ?_
  refine jr_icmp_eq hm1 (tgt := 937) dL_law_932 (by decide) (fun _ => ?_) (fun z => absurd h1 z)
  refine jr_iload hm1 (i := 5) rfl dL_law_937 ?_
  have fin : jW C (cl + 1) (sl + 6) Q 954 [jR 97 false, jR 0 false, jR 41 false, jR 63 false, jI (nI (6 * i)), jI k, jI r, jU, jU] [] w3 := jr_goto hm1 (tgt := 1372) dL_law_954 (by decide) (jr_drop (jle_same (jle_same (jle_same (jle_same (jle_same (jle_drop (jle_drop (jle_same (jle_same jle_nil))))))))) (kk w3 h3))
  refine jr_if_ne hm1 (tgt := 954) dL_law_939 (by decide) (fun _ => fin) (fun z => ?_)
  refine jr_aload_n hm1 (i := 3) rfl rfl dL_law_942 ?_
  refine jr_iconst hm1 (v := 0) (by decide) dL_law_943 ?_
  refine jr_laload hm1 ja_63 (show vp_in (nI 0) 1 from vp_in_nI (by omega) (by omega)) dL_law_944 ?_
  refine jr_iload hm1 (i := 6) rfl dL_law_945 ?_
  refine jr_i2l hm1 dL_law_947 ?_
  refine jr_lcmp hm1 dL_law_948 ?_
  exact jr_if_eq hm1 (tgt := 954) dL_law_949 (by decide) (fun _ => fin) (fun z2 => absurd ((lg_cmp0 _ _).mpr (h2 z)) z2)
theorem lc_cut {C : JC} {cl sl : Nat} {Q : State → Prop} {w : JW} {b L : Nat} {xs : Nat → Int32} (hm : jok C ML_law 500 cl sl) (hm1 : jok C ML_law 500 (cl + 1) (sl + 6)) (hE : jLE C) (hS : jScr C b L xs) {i : Nat} (hi : 6 * i + 6 ≤ L) (hL : L ≤ 3072) (hI : jInv i w) (kk : ∀ w2, jInv (i + 1) w2 → jW C (cl + 1) (sl + 6) Q 1372 [jR 97 false, jR 0 false, jR 41 false, jR 63 false, jI (nI (6 * i)), jU, jU, jU, jU] [] w2) : jW C cl sl Q 957 [jR 97 false, jR 0 false, jR 41 false, jR 63 false, jI (nI (6 * i)), jU, jU, jU, jU] [] w := by
  have v1 : vp_in (nI (6 * i) + 1) L := jvi (k := 1) (by omega) hL
  have v2 : vp_in (nI (6 * i) + 2) L := jvi (k := 2) (by omega) hL
  obtain ⟨dw, dm, P, hdw, hdm, hs, hP⟩ := jop_cut hI (xs (nI (6 * i) + 1).toNatClampNeg) (xs (nI (6 * i) + 2).toNatClampNeg)
  refine jr_aload_n hm (i := 1) rfl rfl dL_law_957 ?_
  refine jr_aload_n hm (i := 0) rfl rfl dL_law_958 ?_
  refine jr_iload hm (i := 4) rfl dL_law_959 ?_
  refine jr_iconst hm (v := 1) (by decide) dL_law_961 ?_
  refine jr_iadd hm dL_law_962 ?_
  refine jl_sld hm hS v1 dL_law_963 ?_
  refine jr_aload_n hm (i := 0) rfl rfl dL_law_964 ?_
  refine jr_iload hm (i := 4) rfl dL_law_965 ?_
  refine jr_iconst hm (v := 2) (by decide) dL_law_967 ?_
  refine jr_iadd hm dL_law_968 ?_
  refine jl_sld hm hS v2 dL_law_969 ?_
  refine jr_aload_n hm (i := 3) rfl rfl dL_law_970 ?_
  refine jr_callSW (cl := cl) (sl := sl) (mc := 1) (ms := 6) (as := [jR 0 false, jI (xs (nI (6 * i) + 1).toNatClampNeg), jI (xs (nI (6 * i) + 2).toNatClampNeg), jR 63 false]) hm1 hE hs (by omega) jw_1162 jw_1163 jw_114 jw_1164 jn_L_cut rfl rfl (Nat.le_of_ble_eq_true rfl) rfl dL_law_971 (fun v w1 hp => ?_)
  obtain ⟨k, rfl, hM⟩ := hP v w1 hp
  refine jr_istore hm1 (i := 5) (Nat.le_of_ble_eq_true rfl) rfl dL_law_974 ?_
  refine jr_aload_n hm1 (i := 2) rfl rfl dL_law_976 ?_
  refine jr_aload_n hm1 (i := 0) rfl rfl dL_law_977 ?_
  refine jr_iload hm1 (i := 4) rfl dL_law_978 ?_
  refine jr_iconst hm1 (v := 1) (by decide) dL_law_980 ?_
  refine jr_iadd hm1 dL_law_981 ?_
  refine jl_sld hm1 hS v1 dL_law_982 ?_
  refine jr_aload_n hm1 (i := 0) rfl rfl dL_law_983 ?_
  refine jr_iload hm1 (i := 4) rfl dL_law_984 ?_
  refine jr_iconst hm1 (v := 2) (by decide) dL_law_986 ?_
  refine jr_iadd hm1 dL_law_987 ?_
  refine jl_sld hm1 hS v2 dL_law_988 ?_
  refine jr_callV (cl := cl + 1) (sl := sl + 6) (mc := 0) (ms := 0) (as := [jI (xs (nI (6 * i) + 1).toNatClampNeg), jI (xs (nI (6 * i) + 2).toNatClampNeg)]) hm1 hM (by omega) jw_1724 jw_1725 jw_1726 jw_125 jw_1727 jn_X11_cut rfl jo_41 (fun _ _ _ _ _ => ⟨_, rfl⟩) rfl rfl (Nat.le_of_ble_eq_true rfl) rfl dL_law_989 (fun v w2 hp2 => ?_)
  obtain ⟨r, rfl, h1, h2, h3⟩ := hp2
  refine jr_istore hm1 (i := 6) (Nat.le_of_ble_eq_true rfl) rfl dL_law_992 ?_
  refine jr_aload_n hm1 (i := 2) rfl rfl dL_law_994 ?_
  refine jr_callV (cl := cl + 1) (sl := sl + 6) (mc := 0) (ms := 0) (as := []) hm1 (c_thrown w2) (by decide) jw_1253 jw_1254 jw_1255 jw_125 jw_1256 jn_X11_thrown rfl jo_41 (fun _ _ _ _ _ => ⟨_, rfl⟩) rfl rfl (Nat.le_of_ble_eq_true rfl) rfl dL_law_995 (fun v w3 hp3 => ?_)
  obtain ⟨rfl, rfl⟩ := hp3
  refine jr_iload hm1 (i := 5) rfl dL_law_998 ?_
  refine jr_icmp_eq hm1 (tgt := 1005) dL_law_1000 (by decide) (fun _ => ?_) (fun z => absurd h1 z)
  refine jr_iload hm1 (i := 5) rfl dL_law_1005 ?_
  have fin : jW C (cl + 1) (sl + 6) Q 1022 [jR 97 false, jR 0 false, jR 41 false, jR 63 false, jI (nI (6 * i)), jI k, jI r, jU, jU] [] w3 := jr_goto hm1 (tgt := 1372) dL_law_1022 (by decide) (jr_drop (jle_same (jle_same (jle_same (jle_same (jle_same (jle_drop (jle_drop (jle_same (jle_same jle_nil))))))))) (kk w3 h3))
  refine jr_if_ne hm1 (tgt := 1022) dL_law_1007 (by decide) (fun _ => fin) (fun z => ?_)
  refine jr_aload_n hm1 (i := 3) rfl rfl dL_law_1010 ?_
  refine jr_iconst hm1 (v := 0) (by decide) dL_law_1011 ?_
  refine jr_laload hm1 ja_63 (show vp_in (nI 0) 1 from vp_in_nI (by omega) (by omega)) dL_law_1012 ?_
  refine jr_iload hm1 (i := 6) rfl dL_law_1013 ?_
  refine jr_i2l hm1 dL_law_1015 ?_
  refine jr_lcmp hm1 dL_law_1016 ?_
  exact jr_if_eq hm1 (tgt := 1022) dL_law_1017 (by decide) (fun _ => fin) (fun z2 => absurd ((lg_cmp0 _ _).mpr (h2 z)) z2)
theorem lc_pass {C : JC} {cl sl : Nat} {Q : State → Prop} {w : JW} {b L : Nat} {xs : Nat → Int32} (hm : jok C ML_law 500 cl sl) (hm1 : jok C ML_law 500 (cl + 1) (sl + 6)) (hE : jLE C) (hS : jScr C b L xs) {i : Nat} (hi : 6 * i + 6 ≤ L) (hL : L ≤ 3072) (hI : jInv i w) (kk : ∀ w2, jInv (i + 1) w2 → jW C (cl + 1) (sl + 6) Q 1372 [jR 97 false, jR 0 false, jR 41 false, jR 63 false, jI (nI (6 * i)), jU, jU, jU, jU] [] w2) : jW C cl sl Q 1025 [jR 97 false, jR 0 false, jR 41 false, jR 63 false, jI (nI (6 * i)), jU, jU, jU, jU] [] w := by
  have v1 : vp_in (nI (6 * i) + 1) L := jvi (k := 1) (by omega) hL
  obtain ⟨dw, dm, P, hdw, hdm, hs, hP⟩ := jop_pass hI (xs (nI (6 * i) + 1).toNatClampNeg)
  refine jr_aload_n hm (i := 1) rfl rfl dL_law_1025 ?_
  refine jr_aload_n hm (i := 0) rfl rfl dL_law_1026 ?_
  refine jr_iload hm (i := 4) rfl dL_law_1027 ?_
  refine jr_iconst hm (v := 1) (by decide) dL_law_1029 ?_
  refine jr_iadd hm dL_law_1030 ?_
  refine jl_sld hm hS v1 dL_law_1031 ?_
  refine jr_aload_n hm (i := 3) rfl rfl dL_law_1032 ?_
  refine jr_callSW (cl := cl) (sl := sl) (mc := 1) (ms := 6) (as := [jR 0 false, jI (xs (nI (6 * i) + 1).toNatClampNeg), jR 63 false]) hm1 hE hs (by omega) jw_1170 jw_1171 jw_114 jw_1172 jn_L_pass rfl rfl (Nat.le_of_ble_eq_true rfl) rfl dL_law_1033 (fun v w1 hp => ?_)
  obtain ⟨k, rfl, hM⟩ := hP v w1 hp
  refine jr_istore hm1 (i := 5) (Nat.le_of_ble_eq_true rfl) rfl dL_law_1036 ?_
  refine jr_aload_n hm1 (i := 2) rfl rfl dL_law_1038 ?_
  refine jr_aload_n hm1 (i := 0) rfl rfl dL_law_1039 ?_
  refine jr_iload hm1 (i := 4) rfl dL_law_1040 ?_
  refine jr_iconst hm1 (v := 1) (by decide) dL_law_1042 ?_
  refine jr_iadd hm1 dL_law_1043 ?_
  refine jl_sld hm1 hS v1 dL_law_1044 ?_
  refine jr_callV (cl := cl + 1) (sl := sl + 6) (mc := 0) (ms := 0) (as := [jI (xs (nI (6 * i) + 1).toNatClampNeg)]) hm1 hM (by omega) jw_1728 jw_1729 jw_1730 jw_125 jw_1731 jn_X11_pass_ rfl jo_41 (fun _ _ _ _ _ => ⟨_, rfl⟩) rfl rfl (Nat.le_of_ble_eq_true rfl) rfl dL_law_1045 (fun v w2 hp2 => ?_)
  obtain ⟨r, rfl, h1, h2, h3⟩ := hp2
  refine jr_istore hm1 (i := 6) (Nat.le_of_ble_eq_true rfl) rfl dL_law_1048 ?_
  refine jr_aload_n hm1 (i := 2) rfl rfl dL_law_1050 ?_
  refine jr_callV (cl := cl + 1) (sl := sl + 6) (mc := 0) (ms := 0) (as := []) hm1 (c_thrown w2) (by decide) jw_1253 jw_1254 jw_1255 jw_125 jw_1256 jn_X11_thrown rfl jo_41 (fun _ _ _ _ _ => ⟨_, rfl⟩) rfl rfl (Nat.le_of_ble_eq_true rfl) rfl dL_law_1051 (fun v w3 hp3 => ?_)
  obtain ⟨rfl, rfl⟩ := hp3
  refine jr_iload hm1 (i := 5) rfl dL_law_1054 ?_
  refine jr_icmp_eq hm1 (tgt := 1061) dL_law_1056 (by decide) (fun _ => ?_) (fun z => absurd h1 z)
  refine jr_iload hm1 (i := 5) rfl dL_law_1061 ?_
  have fin : jW C (cl + 1) (sl + 6) Q 1078 [jR 97 false, jR 0 false, jR 41 false, jR 63 false, jI (nI (6 * i)), jI k, jI r, jU, jU] [] w3 := jr_goto hm1 (tgt := 1372) dL_law_1078 (by decide) (jr_drop (jle_same (jle_same (jle_same (jle_same (jle_same (jle_drop (jle_drop (jle_same (jle_same jle_nil))))))))) (kk w3 h3))
  refine jr_if_ne hm1 (tgt := 1078) dL_law_1063 (by decide) (fun _ => fin) (fun z => ?_)
  refine jr_aload_n hm1 (i := 3) rfl rfl dL_law_1066 ?_
  refine jr_iconst hm1 (v := 0) (by decide) dL_law_1067 ?_
  refine jr_laload hm1 ja_63 (show vp_in (nI 0) 1 from vp_in_nI (by omega) (by omega)) dL_law_1068 ?_
  refine jr_iload hm1 (i := 6) rfl dL_law_1069 ?_
  refine jr_i2l hm1 dL_law_1071 ?_
  refine jr_lcmp hm1 dL_law_1072 ?_
  exact jr_if_eq hm1 (tgt := 1078) dL_law_1073 (by decide) (fun _ => fin) (fun z2 => absurd ((lg_cmp0 _ _).mpr (h2 z)) z2)
theorem lc_until {C : JC} {cl sl : Nat} {Q : State → Prop} {w : JW} {b L : Nat} {xs : Nat → Int32} (hm : jok C ML_law 500 cl sl) (hm1 : jok C ML_law 500 (cl + 1) (sl + 6)) (hE : jLE C) (hS : jScr C b L xs) {i : Nat} (hi : 6 * i + 6 ≤ L) (hL : L ≤ 3072) (hI : jInv i w) (kk : ∀ w2, jInv (i + 1) w2 → jW C (cl + 1) (sl + 6) Q 1372 [jR 97 false, jR 0 false, jR 41 false, jR 63 false, jI (nI (6 * i)), jU, jU, jU, jU] [] w2) : jW C cl sl Q 1081 [jR 97 false, jR 0 false, jR 41 false, jR 63 false, jI (nI (6 * i)), jU, jU, jU, jU] [] w := by
  have v1 : vp_in (nI (6 * i) + 1) L := jvi (k := 1) (by omega) hL
  obtain ⟨dw, dm, P, hdw, hdm, hs, hP⟩ := jop_until hI (xs (nI (6 * i) + 1).toNatClampNeg)
  refine jr_aload_n hm (i := 1) rfl rfl dL_law_1081 ?_
  refine jr_aload_n hm (i := 0) rfl rfl dL_law_1082 ?_
  refine jr_iload hm (i := 4) rfl dL_law_1083 ?_
  refine jr_iconst hm (v := 1) (by decide) dL_law_1085 ?_
  refine jr_iadd hm dL_law_1086 ?_
  refine jl_sld hm hS v1 dL_law_1087 ?_
  refine jr_aload_n hm (i := 3) rfl rfl dL_law_1088 ?_
  refine jr_callSW (cl := cl) (sl := sl) (mc := 1) (ms := 6) (as := [jR 0 false, jI (xs (nI (6 * i) + 1).toNatClampNeg), jR 63 false]) hm1 hE hs (by omega) jw_1212 jw_1213 jw_114 jw_1214 jn_L_until rfl rfl (Nat.le_of_ble_eq_true rfl) rfl dL_law_1089 (fun v w1 hp => ?_)
  obtain ⟨k, rfl, hM⟩ := hP v w1 hp
  refine jr_istore hm1 (i := 5) (Nat.le_of_ble_eq_true rfl) rfl dL_law_1092 ?_
  refine jr_aload_n hm1 (i := 2) rfl rfl dL_law_1094 ?_
  refine jr_aload_n hm1 (i := 0) rfl rfl dL_law_1095 ?_
  refine jr_iload hm1 (i := 4) rfl dL_law_1096 ?_
  refine jr_iconst hm1 (v := 1) (by decide) dL_law_1098 ?_
  refine jr_iadd hm1 dL_law_1099 ?_
  refine jl_sld hm1 hS v1 dL_law_1100 ?_
  refine jr_callV (cl := cl + 1) (sl := sl + 6) (mc := 0) (ms := 0) (as := [jI (xs (nI (6 * i) + 1).toNatClampNeg)]) hm1 hM (by omega) jw_1756 jw_1757 jw_1758 jw_125 jw_1759 jn_X11_until rfl jo_41 (fun _ _ _ _ _ => ⟨_, rfl⟩) rfl rfl (Nat.le_of_ble_eq_true rfl) rfl dL_law_1101 (fun v w2 hp2 => ?_)
  obtain ⟨r, rfl, h1, h2, h3⟩ := hp2
  refine jr_istore hm1 (i := 6) (Nat.le_of_ble_eq_true rfl) rfl dL_law_1104 ?_
  refine jr_aload_n hm1 (i := 2) rfl rfl dL_law_1106 ?_
  refine jr_callV (cl := cl + 1) (sl := sl + 6) (mc := 0) (ms := 0) (as := []) hm1 (c_thrown w2) (by decide) jw_1253 jw_1254 jw_1255 jw_125 jw_1256 jn_X11_thrown rfl jo_41 (fun _ _ _ _ _ => ⟨_, rfl⟩) rfl rfl (Nat.le_of_ble_eq_true rfl) rfl dL_law_1107 (fun v w3 hp3 => ?_)
  obtain ⟨rfl, rfl⟩ := hp3
  refine jr_iload hm1 (i := 5) rfl dL_law_1110 ?_
  refine jr_icmp_eq hm1 (tgt := 1117) dL_law_1112 (by decide) (fun _ => ?_) (fun z => absurd h1 z)
  refine jr_iload hm1 (i := 5) rfl dL_law_1117 ?_
  have fin : jW C (cl + 1) (sl + 6) Q 1134 [jR 97 false, jR 0 false, jR 41 false, jR 63 false, jI (nI (6 * i)), jI k, jI r, jU, jU] [] w3 := jr_goto hm1 (tgt := 1372) dL_law_1134 (by decide) (jr_drop (jle_same (jle_same (jle_same (jle_same (jle_same (jle_drop (jle_drop (jle_same (jle_same jle_nil))))))))) (kk w3 h3))
  refine jr_if_ne hm1 (tgt := 1134) dL_law_1119 (by decide) (fun _ => fin) (fun z => ?_)
  refine jr_aload_n hm1 (i := 3) rfl rfl dL_law_1122 ?_
  refine jr_iconst hm1 (v := 0) (by decide) dL_law_1123 ?_
  refine jr_laload hm1 ja_63 (show vp_in (nI 0) 1 from vp_in_nI (by omega) (by omega)) dL_law_1124 ?_
  refine jr_iload hm1 (i := 6) rfl dL_law_1125 ?_
  refine jr_i2l hm1 dL_law_1127 ?_
  refine jr_lcmp hm1 dL_law_1128 ?_
  exact jr_if_eq hm1 (tgt := 1134) dL_law_1129 (by decide) (fun _ => fin) (fun z2 => absurd ((lg_cmp0 _ _).mpr (h2 z)) z2)
theorem lc_foresee {C : JC} {cl sl : Nat} {Q : State → Prop} {w : JW} {b L : Nat} {xs : Nat → Int32} (hm : jok C ML_law 500 cl sl) (hm1 : jok C ML_law 500 (cl + 1) (sl + 6)) (hE : jLE C) (hS : jScr C b L xs) {i : Nat} (hi : 6 * i + 6 ≤ L) (hL : L ≤ 3072) (hI : jInv i w) (kk : ∀ w2, jInv (i + 1) w2 → jW C (cl + 1) (sl + 6) Q 1372 [jR 97 false, jR 0 false, jR 41 false, jR 63 false, jI (nI (6 * i)), jU, jU, jU, jU] [] w2) : jW C cl sl Q 1137 [jR 97 false, jR 0 false, jR 41 false, jR 63 false, jI (nI (6 * i)), jU, jU, jU, jU] [] w := by
  have v1 : vp_in (nI (6 * i) + 1) L := jvi (k := 1) (by omega) hL
  have v2 : vp_in (nI (6 * i) + 2) L := jvi (k := 2) (by omega) hL
  obtain ⟨dw, dm, P, hdw, hdm, hs, hP⟩ := jop_foresee hI (xs (nI (6 * i) + 1).toNatClampNeg) (xs (nI (6 * i) + 2).toNatClampNeg)
  refine jr_aload_n hm (i := 1) rfl rfl dL_law_1137 ?_
  refine jr_aload_n hm (i := 0) rfl rfl dL_law_1138 ?_
  refine jr_iload hm (i := 4) rfl dL_law_1139 ?_
  refine jr_iconst hm (v := 1) (by decide) dL_law_1141 ?_
  refine jr_iadd hm dL_law_1142 ?_
  refine jl_sld hm hS v1 dL_law_1143 ?_
  refine jr_aload_n hm (i := 0) rfl rfl dL_law_1144 ?_
  refine jr_iload hm (i := 4) rfl dL_law_1145 ?_
  refine jr_iconst hm (v := 2) (by decide) dL_law_1147 ?_
  refine jr_iadd hm dL_law_1148 ?_
  refine jl_sld hm hS v2 dL_law_1149 ?_
  refine jr_aload_n hm (i := 3) rfl rfl dL_law_1150 ?_
  refine jr_callSW (cl := cl) (sl := sl) (mc := 1) (ms := 6) (as := [jR 0 false, jI (xs (nI (6 * i) + 1).toNatClampNeg), jI (xs (nI (6 * i) + 2).toNatClampNeg), jR 63 false]) hm1 hE hs (by omega) jw_1227 jw_1228 jw_114 jw_1229 jn_L_foresee rfl rfl (Nat.le_of_ble_eq_true rfl) rfl dL_law_1151 (fun v w1 hp => ?_)
  obtain ⟨k, rfl, hM⟩ := hP v w1 hp
  refine jr_istore hm1 (i := 5) (Nat.le_of_ble_eq_true rfl) rfl dL_law_1154 ?_
  refine jr_aload_n hm1 (i := 2) rfl rfl dL_law_1156 ?_
  refine jr_aload_n hm1 (i := 0) rfl rfl dL_law_1157 ?_
  refine jr_iload hm1 (i := 4) rfl dL_law_1158 ?_
  refine jr_iconst hm1 (v := 1) (by decide) dL_law_1160 ?_
  refine jr_iadd hm1 dL_law_1161 ?_
  refine jl_sld hm1 hS v1 dL_law_1162 ?_
  refine jr_aload_n hm1 (i := 0) rfl rfl dL_law_1163 ?_
  refine jr_iload hm1 (i := 4) rfl dL_law_1164 ?_
  refine jr_iconst hm1 (v := 2) (by decide) dL_law_1166 ?_
  refine jr_iadd hm1 dL_law_1167 ?_
  refine jl_sld hm1 hS v2 dL_law_1168 ?_
  refine jr_callV (cl := cl + 1) (sl := sl + 6) (mc := 0) (ms := 0) (as := [jI (xs (nI (6 * i) + 1).toNatClampNeg), jI (xs (nI (6 * i) + 2).toNatClampNeg)]) hm1 hM (by omega) jw_1767 jw_1768 jw_1769 jw_125 jw_1770 jn_X11_foresee rfl jo_41 (fun _ _ _ _ _ => ⟨_, rfl⟩) rfl rfl (Nat.le_of_ble_eq_true rfl) rfl dL_law_1169 (fun v w2 hp2 => ?_)
  obtain ⟨r, rfl, h1, h2, h3⟩ := hp2
  refine jr_istore hm1 (i := 6) (Nat.le_of_ble_eq_true rfl) rfl dL_law_1172 ?_
  refine jr_aload_n hm1 (i := 2) rfl rfl dL_law_1174 ?_
  refine jr_callV (cl := cl + 1) (sl := sl + 6) (mc := 0) (ms := 0) (as := []) hm1 (c_thrown w2) (by decide) jw_1253 jw_1254 jw_1255 jw_125 jw_1256 jn_X11_thrown rfl jo_41 (fun _ _ _ _ _ => ⟨_, rfl⟩) rfl rfl (Nat.le_of_ble_eq_true rfl) rfl dL_law_1175 (fun v w3 hp3 => ?_)
  obtain ⟨rfl, rfl⟩ := hp3
  refine jr_iload hm1 (i := 5) rfl dL_law_1178 ?_
  refine jr_icmp_eq hm1 (tgt := 1185) dL_law_1180 (by decide) (fun _ => ?_) (fun z => absurd h1 z)
  refine jr_iload hm1 (i := 5) rfl dL_law_1185 ?_
  have fin : jW C (cl + 1) (sl + 6) Q 1202 [jR 97 false, jR 0 false, jR 41 false, jR 63 false, jI (nI (6 * i)), jI k, jI r, jU, jU] [] w3 := jr_goto hm1 (tgt := 1372) dL_law_1202 (by decide) (jr_drop (jle_same (jle_same (jle_same (jle_same (jle_same (jle_drop (jle_drop (jle_same (jle_same jle_nil))))))))) (kk w3 h3))
  refine jr_if_ne hm1 (tgt := 1202) dL_law_1187 (by decide) (fun _ => fin) (fun z => ?_)
  refine jr_aload_n hm1 (i := 3) rfl rfl dL_law_1190 ?_
  refine jr_iconst hm1 (v := 0) (by decide) dL_law_1191 ?_
  refine jr_laload hm1 ja_63 (show vp_in (nI 0) 1 from vp_in_nI (by omega) (by omega)) dL_law_1192 ?_
  refine jr_iload hm1 (i := 6) rfl dL_law_1193 ?_
  refine jr_i2l hm1 dL_law_1195 ?_
  refine jr_lcmp hm1 dL_law_1196 ?_
  exact jr_if_eq hm1 (tgt := 1202) dL_law_1197 (by decide) (fun _ => fin) (fun z2 => absurd ((lg_cmp0 _ _).mpr (h2 z)) z2)
theorem lc_advise {C : JC} {cl sl : Nat} {Q : State → Prop} {w : JW} {b L : Nat} {xs : Nat → Int32} (hm : jok C ML_law 500 cl sl) (hm1 : jok C ML_law 500 (cl + 1) (sl + 6)) (hE : jLE C) (hS : jScr C b L xs) {i : Nat} (hi : 6 * i + 6 ≤ L) (hL : L ≤ 3072) (hI : jInv i w) (kk : ∀ w2, jInv (i + 1) w2 → jW C (cl + 1) (sl + 6) Q 1372 [jR 97 false, jR 0 false, jR 41 false, jR 63 false, jI (nI (6 * i)), jU, jU, jU, jU] [] w2) : jW C cl sl Q 1205 [jR 97 false, jR 0 false, jR 41 false, jR 63 false, jI (nI (6 * i)), jU, jU, jU, jU] [] w := by
  have v1 : vp_in (nI (6 * i) + 1) L := jvi (k := 1) (by omega) hL
  obtain ⟨dw, dm, P, hdw, hdm, hs, hP⟩ := jop_advise (by omega) hI (xs (nI (6 * i) + 1).toNatClampNeg)
  refine jr_aload_n hm (i := 1) rfl rfl dL_law_1205 ?_
  refine jr_aload_n hm (i := 0) rfl rfl dL_law_1206 ?_
  refine jr_iload hm (i := 4) rfl dL_law_1207 ?_
  refine jr_iconst hm (v := 1) (by decide) dL_law_1209 ?_
  refine jr_iadd hm dL_law_1210 ?_
  refine jl_sld hm hS v1 dL_law_1211 ?_
  refine jr_aload_n hm (i := 3) rfl rfl dL_law_1212 ?_
  refine jr_callSW (cl := cl) (sl := sl) (mc := 1) (ms := 6) (as := [jR 0 false, jI (xs (nI (6 * i) + 1).toNatClampNeg), jR 63 false]) hm1 hE hs (by omega) jw_1235 jw_1236 jw_114 jw_1237 jn_L_advise rfl rfl (Nat.le_of_ble_eq_true rfl) rfl dL_law_1213 (fun v w1 hp => ?_)
  obtain ⟨k, rfl, hM⟩ := hP v w1 hp
  refine jr_istore hm1 (i := 5) (Nat.le_of_ble_eq_true rfl) rfl dL_law_1216 ?_
  refine jr_aload_n hm1 (i := 2) rfl rfl dL_law_1218 ?_
  refine jr_aload_n hm1 (i := 0) rfl rfl dL_law_1219 ?_
  refine jr_iload hm1 (i := 4) rfl dL_law_1220 ?_
  refine jr_iconst hm1 (v := 1) (by decide) dL_law_1222 ?_
  refine jr_iadd hm1 dL_law_1223 ?_
  refine jl_sld hm1 hS v1 dL_law_1224 ?_
  refine jr_callV (cl := cl + 1) (sl := sl + 6) (mc := 0) (ms := 0) (as := [jI (xs (nI (6 * i) + 1).toNatClampNeg)]) hm1 hM (by omega) jw_1771 jw_1772 jw_1773 jw_125 jw_1774 jn_X11_advise rfl jo_41 (fun _ _ _ _ _ => ⟨_, rfl⟩) rfl rfl (Nat.le_of_ble_eq_true rfl) rfl dL_law_1225 (fun v w2 hp2 => ?_)
  obtain ⟨r, rfl, h1, h2, h3⟩ := hp2
  refine jr_istore hm1 (i := 6) (Nat.le_of_ble_eq_true rfl) rfl dL_law_1228 ?_
  refine jr_aload_n hm1 (i := 2) rfl rfl dL_law_1230 ?_
  refine jr_callV (cl := cl + 1) (sl := sl + 6) (mc := 0) (ms := 0) (as := []) hm1 (c_thrown w2) (by decide) jw_1253 jw_1254 jw_1255 jw_125 jw_1256 jn_X11_thrown rfl jo_41 (fun _ _ _ _ _ => ⟨_, rfl⟩) rfl rfl (Nat.le_of_ble_eq_true rfl) rfl dL_law_1231 (fun v w3 hp3 => ?_)
  obtain ⟨rfl, rfl⟩ := hp3
  refine jr_iload hm1 (i := 5) rfl dL_law_1234 ?_
  refine jr_icmp_eq hm1 (tgt := 1241) dL_law_1236 (by decide) (fun _ => ?_) (fun z => absurd h1 z)
  refine jr_iload hm1 (i := 5) rfl dL_law_1241 ?_
  have fin : jW C (cl + 1) (sl + 6) Q 1258 [jR 97 false, jR 0 false, jR 41 false, jR 63 false, jI (nI (6 * i)), jI k, jI r, jU, jU] [] w3 := jr_goto hm1 (tgt := 1372) dL_law_1258 (by decide) (jr_drop (jle_same (jle_same (jle_same (jle_same (jle_same (jle_drop (jle_drop (jle_same (jle_same jle_nil))))))))) (kk w3 h3))
  refine jr_if_ne hm1 (tgt := 1258) dL_law_1243 (by decide) (fun _ => fin) (fun z => ?_)
  refine jr_aload_n hm1 (i := 3) rfl rfl dL_law_1246 ?_
  refine jr_iconst hm1 (v := 0) (by decide) dL_law_1247 ?_
  refine jr_laload hm1 ja_63 (show vp_in (nI 0) 1 from vp_in_nI (by omega) (by omega)) dL_law_1248 ?_
  refine jr_iload hm1 (i := 6) rfl dL_law_1249 ?_
  refine jr_i2l hm1 dL_law_1251 ?_
  refine jr_lcmp hm1 dL_law_1252 ?_
  exact jr_if_eq hm1 (tgt := 1258) dL_law_1253 (by decide) (fun _ => fin) (fun z2 => absurd ((lg_cmp0 _ _).mpr (h2 z)) z2)
theorem lc_best {C : JC} {cl sl : Nat} {Q : State → Prop} {w : JW} {b L : Nat} {xs : Nat → Int32} (hm : jok C ML_law 500 cl sl) (hm1 : jok C ML_law 500 (cl + 1) (sl + 6)) (hE : jLE C) (hS : jScr C b L xs) {i : Nat} (hi : 6 * i + 6 ≤ L) (hL : L ≤ 3072) (hI : jInv i w) (kk : ∀ w2, jInv (i + 1) w2 → jW C (cl + 1) (sl + 6) Q 1372 [jR 97 false, jR 0 false, jR 41 false, jR 63 false, jI (nI (6 * i)), jU, jU, jU, jU] [] w2) : jW C cl sl Q 1261 [jR 97 false, jR 0 false, jR 41 false, jR 63 false, jI (nI (6 * i)), jU, jU, jU, jU] [] w := by
  have v1 : vp_in (nI (6 * i) + 1) L := jvi (k := 1) (by omega) hL
  obtain ⟨dw, dm, P, hdw, hdm, hs, hP⟩ := jop_best hI (xs (nI (6 * i) + 1).toNatClampNeg)
  refine jr_aload_n hm (i := 1) rfl rfl dL_law_1261 ?_
  refine jr_aload_n hm (i := 0) rfl rfl dL_law_1262 ?_
  refine jr_iload hm (i := 4) rfl dL_law_1263 ?_
  refine jr_iconst hm (v := 1) (by decide) dL_law_1265 ?_
  refine jr_iadd hm dL_law_1266 ?_
  refine jl_sld hm hS v1 dL_law_1267 ?_
  refine jr_aload_n hm (i := 3) rfl rfl dL_law_1268 ?_
  refine jr_callSW (cl := cl) (sl := sl) (mc := 1) (ms := 6) (as := [jR 0 false, jI (xs (nI (6 * i) + 1).toNatClampNeg), jR 63 false]) hm1 hE hs (by omega) jw_1246 jw_1247 jw_114 jw_1248 jn_L_best rfl rfl (Nat.le_of_ble_eq_true rfl) rfl dL_law_1269 (fun v w1 hp => ?_)
  obtain ⟨k, rfl, hM⟩ := hP v w1 hp
  refine jr_istore hm1 (i := 5) (Nat.le_of_ble_eq_true rfl) rfl dL_law_1272 ?_
  refine jr_aload_n hm1 (i := 2) rfl rfl dL_law_1274 ?_
  refine jr_aload_n hm1 (i := 0) rfl rfl dL_law_1275 ?_
  refine jr_iload hm1 (i := 4) rfl dL_law_1276 ?_
  refine jr_iconst hm1 (v := 1) (by decide) dL_law_1278 ?_
  refine jr_iadd hm1 dL_law_1279 ?_
  refine jl_sld hm1 hS v1 dL_law_1280 ?_
  refine jr_callV (cl := cl + 1) (sl := sl + 6) (mc := 0) (ms := 0) (as := [jI (xs (nI (6 * i) + 1).toNatClampNeg)]) hm1 hM (by omega) jw_1775 jw_1776 jw_1777 jw_125 jw_1778 jn_X11_best rfl jo_41 (fun _ _ _ _ _ => ⟨_, rfl⟩) rfl rfl (Nat.le_of_ble_eq_true rfl) rfl dL_law_1281 (fun v w2 hp2 => ?_)
  obtain ⟨r, rfl, h1, h2, h3⟩ := hp2
  refine jr_istore hm1 (i := 6) (Nat.le_of_ble_eq_true rfl) rfl dL_law_1284 ?_
  refine jr_aload_n hm1 (i := 2) rfl rfl dL_law_1286 ?_
  refine jr_callV (cl := cl + 1) (sl := sl + 6) (mc := 0) (ms := 0) (as := []) hm1 (c_thrown w2) (by decide) jw_1253 jw_1254 jw_1255 jw_125 jw_1256 jn_X11_thrown rfl jo_41 (fun _ _ _ _ _ => ⟨_, rfl⟩) rfl rfl (Nat.le_of_ble_eq_true rfl) rfl dL_law_1287 (fun v w3 hp3 => ?_)
  obtain ⟨rfl, rfl⟩ := hp3
  refine jr_iload hm1 (i := 5) rfl dL_law_1290 ?_
  refine jr_icmp_eq hm1 (tgt := 1297) dL_law_1292 (by decide) (fun _ => ?_) (fun z => absurd h1 z)
  refine jr_iload hm1 (i := 5) rfl dL_law_1297 ?_
  have fin : jW C (cl + 1) (sl + 6) Q 1314 [jR 97 false, jR 0 false, jR 41 false, jR 63 false, jI (nI (6 * i)), jI k, jI r, jU, jU] [] w3 := jr_goto hm1 (tgt := 1372) dL_law_1314 (by decide) (jr_drop (jle_same (jle_same (jle_same (jle_same (jle_same (jle_drop (jle_drop (jle_same (jle_same jle_nil))))))))) (kk w3 h3))
  refine jr_if_ne hm1 (tgt := 1314) dL_law_1299 (by decide) (fun _ => fin) (fun z => ?_)
  refine jr_aload_n hm1 (i := 3) rfl rfl dL_law_1302 ?_
  refine jr_iconst hm1 (v := 0) (by decide) dL_law_1303 ?_
  refine jr_laload hm1 ja_63 (show vp_in (nI 0) 1 from vp_in_nI (by omega) (by omega)) dL_law_1304 ?_
  refine jr_iload hm1 (i := 6) rfl dL_law_1305 ?_
  refine jr_i2l hm1 dL_law_1307 ?_
  refine jr_lcmp hm1 dL_law_1308 ?_
  exact jr_if_eq hm1 (tgt := 1314) dL_law_1309 (by decide) (fun _ => fin) (fun z2 => absurd ((lg_cmp0 _ _).mpr (h2 z)) z2)
theorem lc_mean {C : JC} {cl sl : Nat} {Q : State → Prop} {w : JW} {b L : Nat} {xs : Nat → Int32} (hm : jok C ML_law 500 cl sl) (hm1 : jok C ML_law 500 (cl + 1) (sl + 6)) (hE : jLE C) (hS : jScr C b L xs) {i : Nat} (hi : 6 * i + 6 ≤ L) (hL : L ≤ 3072) (hI : jInv i w) (kk : ∀ q : Drawn, (js C).drawn.sameBut q lw_cs → ∀ w2, jInv (i + 1) w2 → jW (jdr C q) (cl + 1) (sl + 6) Q 1372 [jR 97 false, jR 0 false, jR 41 false, jR 63 false, jI (nI (6 * i)), jU, jU, jU, jU] [] w2) : jW C cl sl Q 1317 [jR 97 false, jR 0 false, jR 41 false, jR 63 false, jI (nI (6 * i)), jU, jU, jU, jU] [] w := by
  obtain ⟨P, hs, hP⟩ := jop_mean hI
  intro H locs a hr hl
  refine lv_aload_n hm.exec hm.code dL_law_1317 (i := 1) rfl (hl.2.2 1 _ rfl (fun h => by cases h)) ?_
  refine jl_callD hm (as := []) (rest := []) (ls := [jR 97 false, jR 0 false, jR 41 false, jR 63 false, jI (nI (6 * i)), jU, jU, jU, jU]) hs (by decide) jw_840 jw_841 jw_842 jw_115 jw_843 jn_X9_mean rfl jo_0 (fun _ _ _ _ _ => ⟨_, rfl⟩) rfl (Nat.le_of_ble_eq_true rfl) rfl dL_law_1318 H locs a hl.1 hr (fun r w1 hp H locs hr q hq => ?_)
  have h0 : lv_has a 9 ([(0, .ref (jad C 97 false)), (1, .ref (jad C 0 false)), (2, .ref (jad C 41 false)), (3, .ref (jad C 63 false)), (4, .int (nI (6 * i)))] : List (Nat × Value)) := jloc_has hl
  refine lv_dstore (lv' := (5, .double r) :: [(0, .ref (jad C 97 false)), (1, .ref (jad C 0 false)), (2, .ref (jad C 41 false)), (3, .ref (jad C 63 false)), (4, .int (nI (6 * i)))]) hm.exec hm.code dL_law_1321 h0 (Nat.le_of_ble_eq_true rfl) rfl (fun a1 h1 => ?_)
  refine lv_aload_n hm.exec hm.code dL_law_1323 (i := 2) rfl (lv_at h1 3 rfl) ?_
  refine jl_callD (C := jdr C q) (hm.dr q) (as := []) (rest := []) (ls := [jR 97 false, jR 0 false, jR 41 false, jR 63 false, jI (nI (6 * i)), jU, jU, jU, jU]) (hP r w1 hp) (by decide) jw_1779 jw_1780 jw_1781 jw_125 jw_1782 jn_X11_mean rfl jo_41 (fun _ _ _ _ _ => ⟨_, rfl⟩) rfl (Nat.le_of_ble_eq_true rfl) rfl dL_law_1324 H locs a1 h1.1 hr (fun r2 w2 hp2 H locs hr q2 hq2 => ?_)
  refine lv_dstore (lv' := (7, .double r2) :: (5, .double r) :: [(0, .ref (jad C 97 false)), (1, .ref (jad C 0 false)), (2, .ref (jad C 41 false)), (3, .ref (jad C 63 false)), (4, .int (nI (6 * i)))]) hm.exec hm.code dL_law_1327 h1 (Nat.le_of_ble_eq_true rfl) rfl (fun a2 h2 => ?_)
  obtain ⟨hal, h3⟩ := hp2
  have hal := hal r2 rfl
  have fin : W (jp C) (jl C) (je C) (jR0 C) ((js C).setDrawn q2) (jm C) (jar C) (jbe C) (jme C) (jco C) H locs cl sl Q (F0 (jm C) 1355 a2 []) := by
    refine lv_goto (tgt := 1372) hm.exec hm.code dL_law_1355 (by decide) ?_
    refine W.widen (Nat.le_add_right _ _) (Nat.le_add_right _ _) (kk q2 (hq.trans hq2) w2 h3 H locs a2 hr (jloc_of h2 rfl (fun j v hj hv => ?_)))
    exact List.mem_cons_of_mem _ (List.mem_cons_of_mem _ (jfl_in hj hv))
  refine lv_dload hm.exec hm.code dL_law_1329 (lv_at h2 1 rfl) ?_
  refine lv_dload hm.exec hm.code dL_law_1331 (lv_at h2 0 rfl) ?_
  refine lv_dcmp hm.exec hm.code dL_law_1333 ?_
  refine lv_if_eq (tgt := 1355) hm.exec hm.code dL_law_1334 (by decide) (fun _ => fin) (fun z => ?_)
  refine lv_dload hm.exec hm.code dL_law_1337 (lv_at h2 1 rfl) ?_
  refine lv_dload hm.exec hm.code dL_law_1339 (lv_at h2 1 rfl) ?_
  refine lv_dcmp hm.exec hm.code dL_law_1341 ?_
  refine lv_if_eq (tgt := 1353) hm.exec hm.code dL_law_1342 (by decide) (fun z2 => ?_) (fun z2 => ?_)
  · rcases hal with rfl | ⟨n1, -⟩
    · exact absurd z2 z
    · rw [jnan_cmp n1] at z2
      exact absurd z2 (by decide)
  · refine lv_dload hm.exec hm.code dL_law_1345 (lv_at h2 0 rfl) ?_
    refine lv_dload hm.exec hm.code dL_law_1347 (lv_at h2 0 rfl) ?_
    refine lv_dcmp hm.exec hm.code dL_law_1349 ?_
    refine lv_if_ne (tgt := 1355) hm.exec hm.code dL_law_1350 (by decide) (fun _ => fin) (fun z3 => ?_)
    rcases hal with rfl | ⟨-, n2⟩
    · exact absurd z3 z2
    · rw [jnan_cmp n2] at z3
      exact absurd z3 (by decide)
theorem lc_digest {C : JC} {cl sl : Nat} {Q : State → Prop} {w : JW} {b L : Nat} {xs : Nat → Int32} (hm : jok C ML_law 500 cl sl) (hm1 : jok C ML_law 500 (cl + 1) (sl + 6)) (hE : jLE C) (hS : jScr C b L xs) {i : Nat} (hi : 6 * i + 6 ≤ L) (hL : L ≤ 3072) (hI : jInv i w) (kk : ∀ w2, jInv (i + 1) w2 → jW C (cl + 1) (sl + 6) Q 1372 [jR 97 false, jR 0 false, jR 41 false, jR 63 false, jI (nI (6 * i)), jU, jU, jU, jU] [] w2) : jW C cl sl Q 1358 [jR 97 false, jR 0 false, jR 41 false, jR 63 false, jI (nI (6 * i)), jU, jU, jU, jU] [] w := by
  obtain ⟨P, hs, hP⟩ := jop_digest hI
  refine jr_aload_n hm (i := 1) rfl rfl dL_law_1358 ?_
  refine jr_callV (cl := cl) (sl := sl) (mc := 0) (ms := 0) (as := []) hm hs (by decide) jw_854 jw_855 jw_856 jw_115 jw_857 jn_X9_digest rfl jo_0 (fun _ _ _ _ _ => ⟨_, rfl⟩) rfl rfl (Nat.le_of_ble_eq_true rfl) rfl dL_law_1359 (fun v w1 hp => ?_)
  obtain ⟨r, rfl, hp⟩ := hp
  refine jr_aload_n hm (i := 2) rfl rfl dL_law_1362 ?_
  refine jr_callV (cl := cl) (sl := sl) (mc := 0) (ms := 0) (as := []) hm (hP r w1 hp) (by decide) jw_1783 jw_1784 jw_1785 jw_125 jw_1786 jn_X11_digest rfl jo_41 (fun _ _ _ _ _ => ⟨_, rfl⟩) rfl rfl (Nat.le_of_ble_eq_true rfl) rfl dL_law_1363 (fun v w2 hp2 => ?_)
  obtain ⟨r2, rfl, e, h3⟩ := hp2
  refine jr_lcmp hm dL_law_1366 ?_
  exact jr_if_eq hm (tgt := 1372) dL_law_1367 (by decide) (fun _ => jw_widen (Nat.le_add_right _ _) (Nat.le_add_right _ _) (kk w2 h3)) (fun z => absurd ((lg_cmp0 _ _).mpr e.symm) z)
