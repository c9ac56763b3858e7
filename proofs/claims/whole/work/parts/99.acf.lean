/-! THE LAW, 10: its rows, one by one -/
theorem dL_law__635 : gw_dc cL_law_ 635 (.aload_n 1) 1 636 := ⟨by decide +kernel, rfl⟩
theorem ag_636 : gw_ag cL_law_ 636 1 := ⟨⟨by decide +kernel, rfl⟩, ⟨by decide +kernel, rfl⟩, ⟨by decide +kernel, rfl⟩, ⟨by decide +kernel, rfl⟩, ⟨by decide +kernel, rfl⟩⟩
theorem mv_RL_148 : gw_mv RL 148 yX10_order := ⟨gw_mem 580 (by decide +kernel) rfl, gw_mem 581 (by decide +kernel) rfl, gw_mem 582 (by decide +kernel) rfl⟩
theorem my_X10_order : gw_my yX10_order cX10_order 2 (some .int) 1 := ⟨gw_mem 583 (by decide +kernel) rfl, gw_mem 95 (by decide +kernel) rfl, by decide +kernel, by decide⟩
theorem dL_law__642 : gw_dc cL_law_ 642 (.invokevirtual 148) 3 645 := ⟨by decide +kernel, rfl⟩
theorem dL_law__645 : gw_dc cL_law_ 645 (.aload_n 2) 1 646 := ⟨by decide +kernel, rfl⟩
theorem ag_646 : gw_ag cL_law_ 646 1 := ⟨⟨by decide +kernel, rfl⟩, ⟨by decide +kernel, rfl⟩, ⟨by decide +kernel, rfl⟩, ⟨by decide +kernel, rfl⟩, ⟨by decide +kernel, rfl⟩⟩
theorem mv_RL_151 : gw_mv RL 151 yX11_order := ⟨gw_mem 1775 (by decide +kernel) rfl, gw_mem 1776 (by decide +kernel) rfl, gw_mem 1777 (by decide +kernel) rfl⟩
theorem my_X11_order : gw_my yX11_order cX11_order 2 (some .int) 1 := ⟨gw_mem 1778 (by decide +kernel) rfl, gw_mem 106 (by decide +kernel) rfl, by decide +kernel, by decide⟩
theorem dL_law__652 : gw_dc cL_law_ 652 (.invokevirtual 151) 3 655 := ⟨by decide +kernel, rfl⟩
theorem dL_law__655 : gw_dc cL_law_ 655 (.if_icmp .eq 1618) 3 658 := ⟨by decide +kernel, rfl⟩
theorem dL_law__660 : gw_dc cL_law_ 660 (.aload_n 1) 1 661 := ⟨by decide +kernel, rfl⟩
theorem ag_661 : gw_ag cL_law_ 661 1 := ⟨⟨by decide +kernel, rfl⟩, ⟨by decide +kernel, rfl⟩, ⟨by decide +kernel, rfl⟩, ⟨by decide +kernel, rfl⟩, ⟨by decide +kernel, rfl⟩⟩
theorem dL_law__667 : gw_dc cL_law_ 667 (.aload_n 3) 1 668 := ⟨by decide +kernel, rfl⟩
theorem ms_RL_152 : gw_mst RL 152 yL_end := ⟨gw_mem 1094 (by decide +kernel) rfl, gw_mem 1095 (by decide +kernel) rfl⟩
theorem dL_law__668 : gw_dc cL_law_ 668 (.invokestatic 152) 3 671 := ⟨by decide +kernel, rfl⟩
theorem dL_law__671 : gw_dc cL_law_ 671 (.istore 5) 2 673 := ⟨by decide +kernel, rfl⟩
theorem dL_law__673 : gw_dc cL_law_ 673 (.aload_n 2) 1 674 := ⟨by decide +kernel, rfl⟩
theorem ag_674 : gw_ag cL_law_ 674 1 := ⟨⟨by decide +kernel, rfl⟩, ⟨by decide +kernel, rfl⟩, ⟨by decide +kernel, rfl⟩, ⟨by decide +kernel, rfl⟩, ⟨by decide +kernel, rfl⟩⟩
theorem mv_RL_154 : gw_mv RL 154 yX11_end := ⟨gw_mem 1779 (by decide +kernel) rfl, gw_mem 1780 (by decide +kernel) rfl, gw_mem 1781 (by decide +kernel) rfl⟩
theorem my_X11_end : gw_my yX11_end cX11_end 2 (some .int) 1 := ⟨gw_mem 1782 (by decide +kernel) rfl, gw_mem 106 (by decide +kernel) rfl, by decide +kernel, by decide⟩
theorem dL_law__680 : gw_dc cL_law_ 680 (.invokevirtual 154) 3 683 := ⟨by decide +kernel, rfl⟩
theorem dL_law__683 : gw_dc cL_law_ 683 (.istore 6) 2 685 := ⟨by decide +kernel, rfl⟩
theorem t1_685 : gw_t1 cL_law_ 685 := ⟨⟨by decide +kernel, rfl⟩, ⟨by decide +kernel, rfl⟩, ⟨by decide +kernel, rfl⟩, ⟨by decide +kernel, rfl⟩⟩
theorem t2_696 : gw_t2 cL_law_ 696 1560 := ⟨⟨by decide +kernel, rfl⟩, ⟨by decide +kernel, rfl⟩, ⟨by decide +kernel, rfl⟩, ⟨by decide +kernel, rfl⟩, ⟨by decide +kernel, rfl⟩, ⟨by decide +kernel, rfl⟩, ⟨by decide +kernel, rfl⟩, ⟨by decide +kernel, rfl⟩, ⟨by decide +kernel, rfl⟩, ⟨by decide +kernel, rfl⟩⟩
theorem dL_law__716 : gw_dc cL_law_ 716 (.aload_n 1) 1 717 := ⟨by decide +kernel, rfl⟩
theorem ag_717 : gw_ag cL_law_ 717 1 := ⟨⟨by decide +kernel, rfl⟩, ⟨by decide +kernel, rfl⟩, ⟨by decide +kernel, rfl⟩, ⟨by decide +kernel, rfl⟩, ⟨by decide +kernel, rfl⟩⟩
theorem dL_law__723 : gw_dc cL_law_ 723 (.aload_n 3) 1 724 := ⟨by decide +kernel, rfl⟩
theorem ms_RL_155 : gw_mst RL 155 yL_waits := ⟨gw_mem 1101 (by decide +kernel) rfl, gw_mem 1102 (by decide +kernel) rfl⟩
theorem dL_law__724 : gw_dc cL_law_ 724 (.invokestatic 155) 3 727 := ⟨by decide +kernel, rfl⟩
theorem dL_law__727 : gw_dc cL_law_ 727 (.istore 5) 2 729 := ⟨by decide +kernel, rfl⟩
theorem dL_law__729 : gw_dc cL_law_ 729 (.aload_n 2) 1 730 := ⟨by decide +kernel, rfl⟩
theorem ag_730 : gw_ag cL_law_ 730 1 := ⟨⟨by decide +kernel, rfl⟩, ⟨by decide +kernel, rfl⟩, ⟨by decide +kernel, rfl⟩, ⟨by decide +kernel, rfl⟩, ⟨by decide +kernel, rfl⟩⟩
theorem mv_RL_157 : gw_mv RL 157 yX11_waits := ⟨gw_mem 1787 (by decide +kernel) rfl, gw_mem 1788 (by decide +kernel) rfl, gw_mem 1789 (by decide +kernel) rfl⟩
theorem my_X11_waits : gw_my yX11_waits cX11_waits 2 (some .int) 1 := ⟨gw_mem 1790 (by decide +kernel) rfl, gw_mem 106 (by decide +kernel) rfl, by decide +kernel, by decide⟩
theorem dL_law__736 : gw_dc cL_law_ 736 (.invokevirtual 157) 3 739 := ⟨by decide +kernel, rfl⟩
theorem dL_law__739 : gw_dc cL_law_ 739 (.istore 6) 2 741 := ⟨by decide +kernel, rfl⟩
theorem t1_741 : gw_t1 cL_law_ 741 := ⟨⟨by decide +kernel, rfl⟩, ⟨by decide +kernel, rfl⟩, ⟨by decide +kernel, rfl⟩, ⟨by decide +kernel, rfl⟩⟩
theorem t2_752 : gw_t2 cL_law_ 752 1504 := ⟨⟨by decide +kernel, rfl⟩, ⟨by decide +kernel, rfl⟩, ⟨by decide +kernel, rfl⟩, ⟨by decide +kernel, rfl⟩, ⟨by decide +kernel, rfl⟩, ⟨by decide +kernel, rfl⟩, ⟨by decide +kernel, rfl⟩, ⟨by decide +kernel, rfl⟩, ⟨by decide +kernel, rfl⟩, ⟨by decide +kernel, rfl⟩⟩
theorem dL_law__772 : gw_dc cL_law_ 772 (.aload_n 1) 1 773 := ⟨by decide +kernel, rfl⟩
theorem ag_773 : gw_ag cL_law_ 773 1 := ⟨⟨by decide +kernel, rfl⟩, ⟨by decide +kernel, rfl⟩, ⟨by decide +kernel, rfl⟩, ⟨by decide +kernel, rfl⟩, ⟨by decide +kernel, rfl⟩⟩
theorem dL_law__779 : gw_dc cL_law_ 779 (.aload_n 3) 1 780 := ⟨by decide +kernel, rfl⟩
theorem ms_RL_158 : gw_mst RL 158 yL_home := ⟨gw_mem 1108 (by decide +kernel) rfl, gw_mem 1109 (by decide +kernel) rfl⟩
theorem dL_law__780 : gw_dc cL_law_ 780 (.invokestatic 158) 3 783 := ⟨by decide +kernel, rfl⟩
theorem dL_law__783 : gw_dc cL_law_ 783 (.istore 5) 2 785 := ⟨by decide +kernel, rfl⟩
theorem dL_law__785 : gw_dc cL_law_ 785 (.aload_n 2) 1 786 := ⟨by decide +kernel, rfl⟩
theorem ag_786 : gw_ag cL_law_ 786 1 := ⟨⟨by decide +kernel, rfl⟩, ⟨by decide +kernel, rfl⟩, ⟨by decide +kernel, rfl⟩, ⟨by decide +kernel, rfl⟩, ⟨by decide +kernel, rfl⟩⟩
theorem mv_RL_160 : gw_mv RL 160 yX11_home := ⟨gw_mem 1795 (by decide +kernel) rfl, gw_mem 1796 (by decide +kernel) rfl, gw_mem 1797 (by decide +kernel) rfl⟩
theorem my_X11_home : gw_my yX11_home cX11_home 4 (some .int) 1 := ⟨gw_mem 1798 (by decide +kernel) rfl, gw_mem 106 (by decide +kernel) rfl, by decide +kernel, by decide⟩
theorem dL_law__792 : gw_dc cL_law_ 792 (.invokevirtual 160) 3 795 := ⟨by decide +kernel, rfl⟩
theorem dL_law__795 : gw_dc cL_law_ 795 (.istore 6) 2 797 := ⟨by decide +kernel, rfl⟩
theorem t1_797 : gw_t1 cL_law_ 797 := ⟨⟨by decide +kernel, rfl⟩, ⟨by decide +kernel, rfl⟩, ⟨by decide +kernel, rfl⟩, ⟨by decide +kernel, rfl⟩⟩
theorem t2_808 : gw_t2 cL_law_ 808 1448 := ⟨⟨by decide +kernel, rfl⟩, ⟨by decide +kernel, rfl⟩, ⟨by decide +kernel, rfl⟩, ⟨by decide +kernel, rfl⟩, ⟨by decide +kernel, rfl⟩, ⟨by decide +kernel, rfl⟩, ⟨by decide +kernel, rfl⟩, ⟨by decide +kernel, rfl⟩, ⟨by decide +kernel, rfl⟩, ⟨by decide +kernel, rfl⟩⟩
theorem dL_law__828 : gw_dc cL_law_ 828 (.aload_n 1) 1 829 := ⟨by decide +kernel, rfl⟩
theorem ag_829 : gw_ag cL_law_ 829 1 := ⟨⟨by decide +kernel, rfl⟩, ⟨by decide +kernel, rfl⟩, ⟨by decide +kernel, rfl⟩, ⟨by decide +kernel, rfl⟩, ⟨by decide +kernel, rfl⟩⟩
theorem mv_RL_161 : gw_mv RL 161 yX10_total := ⟨gw_mem 641 (by decide +kernel) rfl, gw_mem 642 (by decide +kernel) rfl, gw_mem 643 (by decide +kernel) rfl⟩
theorem my_X10_total : gw_my yX10_total cX10_total 2 (some .int) 1 := ⟨gw_mem 644 (by decide +kernel) rfl, gw_mem 95 (by decide +kernel) rfl, by decide +kernel, by decide⟩
theorem dL_law__835 : gw_dc cL_law_ 835 (.invokevirtual 161) 3 838 := ⟨by decide +kernel, rfl⟩
theorem dL_law__838 : gw_dc cL_law_ 838 (.aload_n 2) 1 839 := ⟨by decide +kernel, rfl⟩
theorem ag_839 : gw_ag cL_law_ 839 1 := ⟨⟨by decide +kernel, rfl⟩, ⟨by decide +kernel, rfl⟩, ⟨by decide +kernel, rfl⟩, ⟨by decide +kernel, rfl⟩, ⟨by decide +kernel, rfl⟩⟩
theorem mv_RL_164 : gw_mv RL 164 yX11_total := ⟨gw_mem 1799 (by decide +kernel) rfl, gw_mem 1800 (by decide +kernel) rfl, gw_mem 1801 (by decide +kernel) rfl⟩
theorem my_X11_total : gw_my yX11_total cX11_total 6 (some .int) 1 := ⟨gw_mem 1802 (by decide +kernel) rfl, gw_mem 106 (by decide +kernel) rfl, by decide +kernel, by decide⟩
theorem dL_law__845 : gw_dc cL_law_ 845 (.invokevirtual 164) 3 848 := ⟨by decide +kernel, rfl⟩
theorem dL_law__848 : gw_dc cL_law_ 848 (.if_icmp .eq 1425) 3 851 := ⟨by decide +kernel, rfl⟩
theorem dL_law__853 : gw_dc cL_law_ 853 (.aload_n 1) 1 854 := ⟨by decide +kernel, rfl⟩
theorem ag_854 : gw_ag cL_law_ 854 1 := ⟨⟨by decide +kernel, rfl⟩, ⟨by decide +kernel, rfl⟩, ⟨by decide +kernel, rfl⟩, ⟨by decide +kernel, rfl⟩, ⟨by decide +kernel, rfl⟩⟩
theorem ag_860 : gw_ag cL_law_ 860 2 := ⟨⟨by decide +kernel, rfl⟩, ⟨by decide +kernel, rfl⟩, ⟨by decide +kernel, rfl⟩, ⟨by decide +kernel, rfl⟩, ⟨by decide +kernel, rfl⟩⟩
theorem dL_law__866 : gw_dc cL_law_ 866 (.aload_n 3) 1 867 := ⟨by decide +kernel, rfl⟩
theorem ms_RL_165 : gw_mst RL 165 yL_stands := ⟨gw_mem 1120 (by decide +kernel) rfl, gw_mem 1121 (by decide +kernel) rfl⟩
theorem dL_law__867 : gw_dc cL_law_ 867 (.invokestatic 165) 3 870 := ⟨by decide +kernel, rfl⟩
theorem dL_law__870 : gw_dc cL_law_ 870 (.istore 5) 2 872 := ⟨by decide +kernel, rfl⟩
theorem dL_law__872 : gw_dc cL_law_ 872 (.aload_n 2) 1 873 := ⟨by decide +kernel, rfl⟩
theorem ag_873 : gw_ag cL_law_ 873 1 := ⟨⟨by decide +kernel, rfl⟩, ⟨by decide +kernel, rfl⟩, ⟨by decide +kernel, rfl⟩, ⟨by decide +kernel, rfl⟩, ⟨by decide +kernel, rfl⟩⟩
theorem ag_879 : gw_ag cL_law_ 879 2 := ⟨⟨by decide +kernel, rfl⟩, ⟨by decide +kernel, rfl⟩, ⟨by decide +kernel, rfl⟩, ⟨by decide +kernel, rfl⟩, ⟨by decide +kernel, rfl⟩⟩
theorem mv_RL_167 : gw_mv RL 167 yX11_stands := ⟨gw_mem 1811 (by decide +kernel) rfl, gw_mem 1812 (by decide +kernel) rfl, gw_mem 1813 (by decide +kernel) rfl⟩
theorem my_X11_stands : gw_my yX11_stands cX11_stands 8 (some .int) 2 := ⟨gw_mem 1814 (by decide +kernel) rfl, gw_mem 106 (by decide +kernel) rfl, by decide +kernel, by decide⟩
theorem dL_law__885 : gw_dc cL_law_ 885 (.invokevirtual 167) 3 888 := ⟨by decide +kernel, rfl⟩
theorem dL_law__888 : gw_dc cL_law_ 888 (.istore 6) 2 890 := ⟨by decide +kernel, rfl⟩
theorem t1_890 : gw_t1 cL_law_ 890 := ⟨⟨by decide +kernel, rfl⟩, ⟨by decide +kernel, rfl⟩, ⟨by decide +kernel, rfl⟩, ⟨by decide +kernel, rfl⟩⟩
theorem t2_901 : gw_t2 cL_law_ 901 1355 := ⟨⟨by decide +kernel, rfl⟩, ⟨by decide +kernel, rfl⟩, ⟨by decide +kernel, rfl⟩, ⟨by decide +kernel, rfl⟩, ⟨by decide +kernel, rfl⟩, ⟨by decide +kernel, rfl⟩, ⟨by decide +kernel, rfl⟩, ⟨by decide +kernel, rfl⟩, ⟨by decide +kernel, rfl⟩, ⟨by decide +kernel, rfl⟩⟩
theorem dL_law__921 : gw_dc cL_law_ 921 (.aload_n 1) 1 922 := ⟨by decide +kernel, rfl⟩
theorem mv_RL_168 : gw_mv RL 168 yX10_longest := ⟨gw_mem 677 (by decide +kernel) rfl, gw_mem 678 (by decide +kernel) rfl, gw_mem 679 (by decide +kernel) rfl⟩
theorem my_X10_longest : gw_my yX10_longest cX10_longest 3 (some .int) 0 := ⟨gw_mem 680 (by decide +kernel) rfl, gw_mem 95 (by decide +kernel) rfl, by decide +kernel, by decide⟩
theorem dL_law__922 : gw_dc cL_law_ 922 (.invokevirtual 168) 3 925 := ⟨by decide +kernel, rfl⟩
theorem dL_law__925 : gw_dc cL_law_ 925 (.aload_n 2) 1 926 := ⟨by decide +kernel, rfl⟩
theorem mv_RL_171 : gw_mv RL 171 yX11_longest := ⟨gw_mem 1815 (by decide +kernel) rfl, gw_mem 1816 (by decide +kernel) rfl, gw_mem 1817 (by decide +kernel) rfl⟩
theorem my_X11_longest : gw_my yX11_longest cX11_longest 3 (some .int) 0 := ⟨gw_mem 1818 (by decide +kernel) rfl, gw_mem 106 (by decide +kernel) rfl, by decide +kernel, by decide⟩
theorem dL_law__926 : gw_dc cL_law_ 926 (.invokevirtual 171) 3 929 := ⟨by decide +kernel, rfl⟩
theorem dL_law__929 : gw_dc cL_law_ 929 (.if_icmp .eq 1344) 3 932 := ⟨by decide +kernel, rfl⟩
theorem dL_law__934 : gw_dc cL_law_ 934 (.aload_n 1) 1 935 := ⟨by decide +kernel, rfl⟩
theorem ag_935 : gw_ag cL_law_ 935 1 := ⟨⟨by decide +kernel, rfl⟩, ⟨by decide +kernel, rfl⟩, ⟨by decide +kernel, rfl⟩, ⟨by decide +kernel, rfl⟩, ⟨by decide +kernel, rfl⟩⟩
theorem ag_941 : gw_ag cL_law_ 941 2 := ⟨⟨by decide +kernel, rfl⟩, ⟨by decide +kernel, rfl⟩, ⟨by decide +kernel, rfl⟩, ⟨by decide +kernel, rfl⟩, ⟨by decide +kernel, rfl⟩⟩
theorem dL_law__947 : gw_dc cL_law_ 947 (.aload_n 3) 1 948 := ⟨by decide +kernel, rfl⟩
theorem ms_RL_172 : gw_mst RL 172 yL_ahead := ⟨gw_mem 1148 (by decide +kernel) rfl, gw_mem 1149 (by decide +kernel) rfl⟩
theorem dL_law__948 : gw_dc cL_law_ 948 (.invokestatic 172) 3 951 := ⟨by decide +kernel, rfl⟩
theorem dL_law__951 : gw_dc cL_law_ 951 (.istore 5) 2 953 := ⟨by decide +kernel, rfl⟩
theorem dL_law__953 : gw_dc cL_law_ 953 (.aload_n 2) 1 954 := ⟨by decide +kernel, rfl⟩
theorem ag_954 : gw_ag cL_law_ 954 1 := ⟨⟨by decide +kernel, rfl⟩, ⟨by decide +kernel, rfl⟩, ⟨by decide +kernel, rfl⟩, ⟨by decide +kernel, rfl⟩, ⟨by decide +kernel, rfl⟩⟩
theorem ag_960 : gw_ag cL_law_ 960 2 := ⟨⟨by decide +kernel, rfl⟩, ⟨by decide +kernel, rfl⟩, ⟨by decide +kernel, rfl⟩, ⟨by decide +kernel, rfl⟩, ⟨by decide +kernel, rfl⟩⟩
theorem mv_RL_174 : gw_mv RL 174 yX11_ahead := ⟨gw_mem 1819 (by decide +kernel) rfl, gw_mem 1820 (by decide +kernel) rfl, gw_mem 1821 (by decide +kernel) rfl⟩
theorem my_X11_ahead : gw_my yX11_ahead cX11_ahead 5 (some .int) 2 := ⟨gw_mem 1822 (by decide +kernel) rfl, gw_mem 106 (by decide +kernel) rfl, by decide +kernel, by decide⟩
theorem dL_law__966 : gw_dc cL_law_ 966 (.invokevirtual 174) 3 969 := ⟨by decide +kernel, rfl⟩
theorem dL_law__969 : gw_dc cL_law_ 969 (.istore 6) 2 971 := ⟨by decide +kernel, rfl⟩
theorem t1_971 : gw_t1 cL_law_ 971 := ⟨⟨by decide +kernel, rfl⟩, ⟨by decide +kernel, rfl⟩, ⟨by decide +kernel, rfl⟩, ⟨by decide +kernel, rfl⟩⟩
theorem t2_982 : gw_t2 cL_law_ 982 1274 := ⟨⟨by decide +kernel, rfl⟩, ⟨by decide +kernel, rfl⟩, ⟨by decide +kernel, rfl⟩, ⟨by decide +kernel, rfl⟩, ⟨by decide +kernel, rfl⟩, ⟨by decide +kernel, rfl⟩, ⟨by decide +kernel, rfl⟩, ⟨by decide +kernel, rfl⟩, ⟨by decide +kernel, rfl⟩, ⟨by decide +kernel, rfl⟩⟩
section LW
variable {X : Cx} {G : Gl} {L : Nat} {xs : Nat → Int32} {Z : State → Prop} {kc ks : Nat} {ad : Nat → Nat} {σ : Sg} {i : Nat} {a b c : Option AV}
set_option maxRecDepth 4000 in
theorem law_8 (fx : gw_FX X FL G) (nc : gw_NC (cS X)) (sc : gw_SC X G L xs) (hR : Rel σ σ) (hi : i + 6 ≤ L) (hb : kc + 4 ≤ 601024 ∧ ks + 24 ≤ 7293034) (kk : ∀ kc2 ks2 σ2 a b c, kc2 ≤ kc + 4 → ks2 ≤ ks + 24 → Rel σ2 σ2 → gw_W X FL G Z kc2 ks2 (gw_M0 ad) σ2 2273 (lsL i a b c) []) : gw_W X FL G Z kc ks (gw_M0 ad) σ 635 (lsL i a b c) [] := by
  refine g_aload_n fx dL_law__635 rfl ?_
  refine g_arg 1 fx sc ag_636 (by decide) hi ?_
  refine g_callVD fx dL_law__642 mv_RL_148 my_X10_order (s_X10_order ad σ ((xs (i + 1)).toInt)) o_0 rfl rfl rfl (Nat.le_of_ble_eq_true rfl) (by decide) ⟨by show _ ≤ 601024; omega, by show _ ≤ 7293034; omega⟩ ?_
  have hR1 := hR.oz (oz_go1 σ)
  obtain ⟨-, hv, hR2⟩ := (al_order hR1 ((xs (i + 1)).toInt)).fin (on_r0 _) (fun _ _ _ => rfl)
  refine g_aload_n fx dL_law__645 rfl ?_
  refine g_arg 1 fx sc ag_646 (by decide) hi ?_
  refine g_callVD fx dL_law__652 mv_RL_151 my_X11_order (s_X11_order ad _ ((xs (i + 1)).toInt) hR1.tw) o_223 rfl rfl rfl (Nat.le_of_ble_eq_true rfl) (by decide) ⟨by show _ ≤ 601024; omega, by show _ ≤ 7293034; omega⟩ ?_
  exact g_icmp_eq (tgt := 2273) fx dL_law__655 (by decide) (fun _ => kk _ _ _ _ _ _ (by omega) (by omega) hR2) (fun h => absurd hv h)
set_option maxRecDepth 4000 in
theorem law_9 (fx : gw_FX X FL G) (nc : gw_NC (cS X)) (sc : gw_SC X G L xs) (hR : Rel σ σ) (hi : i + 6 ≤ L) (hb : kc + 4 ≤ 601024 ∧ ks + 24 ≤ 7293034) (kk : ∀ kc2 ks2 σ2 a b c, kc2 ≤ kc + 4 → ks2 ≤ ks + 24 → Rel σ2 σ2 → gw_W X FL G Z kc2 ks2 (gw_M0 ad) σ2 2273 (lsL i a b c) []) : gw_W X FL G Z kc ks (gw_M0 ad) σ 660 (lsL i a b c) [] := by
  refine g_aload_n fx dL_law__660 rfl ?_
  refine g_arg 1 fx sc ag_661 (by decide) hi ?_
  refine g_aload_n fx dL_law__667 rfl ?_
  refine g_callSH fx nc dL_law__668 ms_RL_152 myH_L_end (w_end ad σ ((xs (i + 1)).toInt) (al_end hR ((xs (i + 1)).toInt)).mem) rfl rfl (Nat.le_of_ble_eq_true rfl) (by decide) ⟨by show _ ≤ 601024; omega, by show _ ≤ 7293034; omega⟩ (fun E hE => hE.elim) (fun r M2 σ2 hq _ => ?_)
  obtain ⟨rfl, ⟨h0, rfl, rfl⟩ | ⟨j, E, hE, hj, rfl, rfl⟩⟩ := hq
  · show gw_W X FL G Z _ _ _ _ _ _ (vI 0 :: [])
    have hR1 := hR.out (z := (go σ 26 4)) (oz_go1 σ) ((rAt (go σ 26 4) 42 60 ((xs (i + 1)).toInt)))
    have al := al_end hR1 ((xs (i + 1)).toInt)
    rw [h0] at al
    obtain ⟨h5, h8, hR2⟩ := al.fin8 (on_end _ ((xs (i + 1)).toInt))
    refine g_istore fx dL_law__671 (by decide) rfl rfl ?_
    refine g_aload_n fx dL_law__673 rfl ?_
    refine g_arg 1 fx sc ag_674 (by decide) hi ?_
    refine g_callVD fx dL_law__680 mv_RL_154 my_X11_end (s_X11_end ad _ ((xs (i + 1)).toInt) hR1.tw) o_223 rfl rfl rfl (Nat.le_of_ble_eq_true rfl) (by decide) ⟨by show _ ≤ 601024; omega, by show _ ≤ 7293034; omega⟩ ?_
    refine g_istore fx dL_law__683 (by decide) rfl rfl ?_
    refine g_t1 fx t1_685 ⟨by show _ ≤ 601024; omega, by show _ ≤ 7293034; omega⟩ h5 ?_
    exact g_t2 (tgt := 2273) fx t2_696 (by decide) (fun h => h8) (kk _ _ _ _ _ _ (by omega) (by omega) hR2)
  · show gw_W X FL G Z _ _ _ _ _ _ (vI (((j : Nat) : Int) + 1) :: [])
    obtain ⟨h5, hR2⟩ := (al_end hR ((xs (i + 1)).toInt)).thr hE hj (by decide) (on_end _ ((xs (i + 1)).toInt))
    refine g_istore fx dL_law__671 (by decide) rfl rfl ?_
    refine g_aload_n fx dL_law__673 rfl ?_
    refine g_arg 1 fx sc ag_674 (by decide) hi ?_
    refine g_callVD fx dL_law__680 mv_RL_154 my_X11_end (s_X11_end ad _ ((xs (i + 1)).toInt) hR.tw) o_223 rfl rfl rfl (Nat.le_of_ble_eq_true rfl) (by decide) ⟨by show _ ≤ 601024; omega, by show _ ≤ 7293034; omega⟩ ?_
    refine g_istore fx dL_law__683 (by decide) rfl rfl ?_
    refine g_t1 fx t1_685 ⟨by show _ ≤ 601024; omega, by show _ ≤ 7293034; omega⟩ h5 ?_
    exact g_t2 (tgt := 2273) fx t2_696 (by decide) (fun h => absurd h (by omega)) (kk _ _ _ _ _ _ (by omega) (by omega) hR2)
set_option maxRecDepth 4000 in
theorem law_10 (fx : gw_FX X FL G) (nc : gw_NC (cS X)) (sc : gw_SC X G L xs) (hR : Rel σ σ) (hi : i + 6 ≤ L) (hb : kc + 4 ≤ 601024 ∧ ks + 24 ≤ 7293034) (kk : ∀ kc2 ks2 σ2 a b c, kc2 ≤ kc + 4 → ks2 ≤ ks + 24 → Rel σ2 σ2 → gw_W X FL G Z kc2 ks2 (gw_M0 ad) σ2 2273 (lsL i a b c) []) : gw_W X FL G Z kc ks (gw_M0 ad) σ 716 (lsL i a b c) [] := by
  refine g_aload_n fx dL_law__716 rfl ?_
  refine g_arg 1 fx sc ag_717 (by decide) hi ?_
  refine g_aload_n fx dL_law__723 rfl ?_
  refine g_callSH fx nc dL_law__724 ms_RL_155 myH_L_waits (w_waits ad σ ((xs (i + 1)).toInt) (al_waits hR ((xs (i + 1)).toInt)).mem) rfl rfl (Nat.le_of_ble_eq_true rfl) (by decide) ⟨by show _ ≤ 601024; omega, by show _ ≤ 7293034; omega⟩ (fun E hE => hE.elim) (fun r M2 σ2 hq _ => ?_)
  obtain ⟨rfl, ⟨h0, rfl, rfl⟩ | ⟨j, E, hE, hj, rfl, rfl⟩⟩ := hq
  · show gw_W X FL G Z _ _ _ _ _ _ (vI 0 :: [])
    have hR1 := hR.out (z := (go σ 26 4)) (oz_go1 σ) ((uW (go σ 26 4) 26 4 ((xs (i + 1)).toInt)))
    have al := al_waits hR1 ((xs (i + 1)).toInt)
    rw [h0] at al
    obtain ⟨h5, h8, hR2⟩ := al.fin8 (on_waits _ ((xs (i + 1)).toInt))
    refine g_istore fx dL_law__727 (by decide) rfl rfl ?_
    refine g_aload_n fx dL_law__729 rfl ?_
    refine g_arg 1 fx sc ag_730 (by decide) hi ?_
    refine g_callVD fx dL_law__736 mv_RL_157 my_X11_waits (s_X11_waits ad _ ((xs (i + 1)).toInt) hR1.tw) o_223 rfl rfl rfl (Nat.le_of_ble_eq_true rfl) (by decide) ⟨by show _ ≤ 601024; omega, by show _ ≤ 7293034; omega⟩ ?_
    refine g_istore fx dL_law__739 (by decide) rfl rfl ?_
    refine g_t1 fx t1_741 ⟨by show _ ≤ 601024; omega, by show _ ≤ 7293034; omega⟩ h5 ?_
    exact g_t2 (tgt := 2273) fx t2_752 (by decide) (fun h => h8) (kk _ _ _ _ _ _ (by omega) (by omega) hR2)
  · show gw_W X FL G Z _ _ _ _ _ _ (vI (((j : Nat) : Int) + 1) :: [])
    obtain ⟨h5, hR2⟩ := (al_waits hR ((xs (i + 1)).toInt)).thr hE hj (by decide) (on_waits _ ((xs (i + 1)).toInt))
    refine g_istore fx dL_law__727 (by decide) rfl rfl ?_
    refine g_aload_n fx dL_law__729 rfl ?_
    refine g_arg 1 fx sc ag_730 (by decide) hi ?_
    refine g_callVD fx dL_law__736 mv_RL_157 my_X11_waits (s_X11_waits ad _ ((xs (i + 1)).toInt) hR.tw) o_223 rfl rfl rfl (Nat.le_of_ble_eq_true rfl) (by decide) ⟨by show _ ≤ 601024; omega, by show _ ≤ 7293034; omega⟩ ?_
    refine g_istore fx dL_law__739 (by decide) rfl rfl ?_
    refine g_t1 fx t1_741 ⟨by show _ ≤ 601024; omega, by show _ ≤ 7293034; omega⟩ h5 ?_
    exact g_t2 (tgt := 2273) fx t2_752 (by decide) (fun h => absurd h (by omega)) (kk _ _ _ _ _ _ (by omega) (by omega) hR2)
set_option maxRecDepth 4000 in
theorem law_11 (fx : gw_FX X FL G) (nc : gw_NC (cS X)) (sc : gw_SC X G L xs) (hR : Rel σ σ) (hi : i + 6 ≤ L) (hb : kc + 4 ≤ 601024 ∧ ks + 24 ≤ 7293034) (kk : ∀ kc2 ks2 σ2 a b c, kc2 ≤ kc + 4 → ks2 ≤ ks + 24 → Rel σ2 σ2 → gw_W X FL G Z kc2 ks2 (gw_M0 ad) σ2 2273 (lsL i a b c) []) : gw_W X FL G Z kc ks (gw_M0 ad) σ 772 (lsL i a b c) [] := by
  refine g_aload_n fx dL_law__772 rfl ?_
  refine g_arg 1 fx sc ag_773 (by decide) hi ?_
  refine g_aload_n fx dL_law__779 rfl ?_
  refine g_callSH fx nc dL_law__780 ms_RL_158 myH_L_home (w_home ad σ ((xs (i + 1)).toInt) (al_home hR ((xs (i + 1)).toInt)).mem) rfl rfl (Nat.le_of_ble_eq_true rfl) (by decide) ⟨by show _ ≤ 601024; omega, by show _ ≤ 7293034; omega⟩ (fun E hE => hE.elim) (fun r M2 σ2 hq _ => ?_)
  obtain ⟨rfl, ⟨h0, rfl, rfl⟩ | ⟨j, E, hE, hj, rfl, rfl⟩⟩ := hq
  · show gw_W X FL G Z _ _ _ _ _ _ (vI 0 :: [])
    have hR1 := hR.out (z := (go σ 26 4)) (oz_go1 σ) ((loF (go σ 26 4) 26 4 ((xs (i + 1)).toInt)))
    have al := al_home hR1 ((xs (i + 1)).toInt)
    rw [h0] at al
    obtain ⟨h5, h8, hR2⟩ := al.fin8 (on_home _ ((xs (i + 1)).toInt))
    refine g_istore fx dL_law__783 (by decide) rfl rfl ?_
    refine g_aload_n fx dL_law__785 rfl ?_
    refine g_arg 1 fx sc ag_786 (by decide) hi ?_
    refine g_callVD fx dL_law__792 mv_RL_160 my_X11_home (s_X11_home ad _ ((xs (i + 1)).toInt) hR1.tw) o_223 rfl rfl rfl (Nat.le_of_ble_eq_true rfl) (by decide) ⟨by show _ ≤ 601024; omega, by show _ ≤ 7293034; omega⟩ ?_
    refine g_istore fx dL_law__795 (by decide) rfl rfl ?_
    refine g_t1 fx t1_797 ⟨by show _ ≤ 601024; omega, by show _ ≤ 7293034; omega⟩ h5 ?_
    exact g_t2 (tgt := 2273) fx t2_808 (by decide) (fun h => h8) (kk _ _ _ _ _ _ (by omega) (by omega) hR2)
  · show gw_W X FL G Z _ _ _ _ _ _ (vI (((j : Nat) : Int) + 1) :: [])
    obtain ⟨h5, hR2⟩ := (al_home hR ((xs (i + 1)).toInt)).thr hE hj (by decide) (on_home _ ((xs (i + 1)).toInt))
    refine g_istore fx dL_law__783 (by decide) rfl rfl ?_
    refine g_aload_n fx dL_law__785 rfl ?_
    refine g_arg 1 fx sc ag_786 (by decide) hi ?_
    refine g_callVD fx dL_law__792 mv_RL_160 my_X11_home (s_X11_home ad _ ((xs (i + 1)).toInt) hR.tw) o_223 rfl rfl rfl (Nat.le_of_ble_eq_true rfl) (by decide) ⟨by show _ ≤ 601024; omega, by show _ ≤ 7293034; omega⟩ ?_
    refine g_istore fx dL_law__795 (by decide) rfl rfl ?_
    refine g_t1 fx t1_797 ⟨by show _ ≤ 601024; omega, by show _ ≤ 7293034; omega⟩ h5 ?_
    exact g_t2 (tgt := 2273) fx t2_808 (by decide) (fun h => absurd h (by omega)) (kk _ _ _ _ _ _ (by omega) (by omega) hR2)
set_option maxRecDepth 4000 in
theorem law_12 (fx : gw_FX X FL G) (nc : gw_NC (cS X)) (sc : gw_SC X G L xs) (hR : Rel σ σ) (hi : i + 6 ≤ L) (hb : kc + 4 ≤ 601024 ∧ ks + 24 ≤ 7293034) (kk : ∀ kc2 ks2 σ2 a b c, kc2 ≤ kc + 4 → ks2 ≤ ks + 24 → Rel σ2 σ2 → gw_W X FL G Z kc2 ks2 (gw_M0 ad) σ2 2273 (lsL i a b c) []) : gw_W X FL G Z kc ks (gw_M0 ad) σ 828 (lsL i a b c) [] := by
  refine g_aload_n fx dL_law__828 rfl ?_
  refine g_arg 1 fx sc ag_829 (by decide) hi ?_
  refine g_callVD fx dL_law__835 mv_RL_161 my_X10_total (s_X10_total ad σ ((xs (i + 1)).toInt)) o_0 rfl rfl rfl (Nat.le_of_ble_eq_true rfl) (by decide) ⟨by show _ ≤ 601024; omega, by show _ ≤ 7293034; omega⟩ ?_
  have hR1 := hR.oz (oz_go1 σ)
  obtain ⟨-, hv, hR2⟩ := (al_total hR1 ((xs (i + 1)).toInt)).fin (on_r0 _) (fun _ _ _ => rfl)
  refine g_aload_n fx dL_law__838 rfl ?_
  refine g_arg 1 fx sc ag_839 (by decide) hi ?_
  refine g_callVD fx dL_law__845 mv_RL_164 my_X11_total (s_X11_total ad _ ((xs (i + 1)).toInt) hR1.tw) o_223 rfl rfl rfl (Nat.le_of_ble_eq_true rfl) (by decide) ⟨by show _ ≤ 601024; omega, by show _ ≤ 7293034; omega⟩ ?_
  exact g_icmp_eq (tgt := 2273) fx dL_law__848 (by decide) (fun _ => kk _ _ _ _ _ _ (by omega) (by omega) hR2) (fun h => absurd hv h)
set_option maxRecDepth 4000 in
theorem law_13 (fx : gw_FX X FL G) (nc : gw_NC (cS X)) (sc : gw_SC X G L xs) (hR : Rel σ σ) (hi : i + 6 ≤ L) (hb : kc + 4 ≤ 601024 ∧ ks + 24 ≤ 7293034) (kk : ∀ kc2 ks2 σ2 a b c, kc2 ≤ kc + 4 → ks2 ≤ ks + 24 → Rel σ2 σ2 → gw_W X FL G Z kc2 ks2 (gw_M0 ad) σ2 2273 (lsL i a b c) []) : gw_W X FL G Z kc ks (gw_M0 ad) σ 853 (lsL i a b c) [] := by
  refine g_aload_n fx dL_law__853 rfl ?_
  refine g_arg 1 fx sc ag_854 (by decide) hi ?_
  refine g_arg 2 fx sc ag_860 (by decide) hi ?_
  refine g_aload_n fx dL_law__866 rfl ?_
  refine g_callSH fx nc dL_law__867 ms_RL_165 myH_L_stands (w_stands ad σ ((xs (i + 1)).toInt) ((xs (i + 2)).toInt) (al_stands hR ((xs (i + 1)).toInt) ((xs (i + 2)).toInt)).mem) rfl rfl (Nat.le_of_ble_eq_true rfl) (by decide) ⟨by show _ ≤ 601024; omega, by show _ ≤ 7293034; omega⟩ (fun E hE => hE.elim) (fun r M2 σ2 hq _ => ?_)
  obtain ⟨rfl, ⟨h0, rfl, rfl⟩ | ⟨j, E, hE, hj, rfl, rfl⟩⟩ := hq
  · show gw_W X FL G Z _ _ _ _ _ _ (vI 0 :: [])
    have hR1 := hR.out (z := (go σ 26 4)) (oz_go1 σ) ((zStands (go σ 26 4) ((xs (i + 1)).toInt) ((xs (i + 2)).toInt)))
    have al := al_stands hR1 ((xs (i + 1)).toInt) ((xs (i + 2)).toInt)
    rw [h0] at al
    obtain ⟨h5, h8, hR2⟩ := al.fin8 (on_stands _ ((xs (i + 1)).toInt) ((xs (i + 2)).toInt))
    refine g_istore fx dL_law__870 (by decide) rfl rfl ?_
    refine g_aload_n fx dL_law__872 rfl ?_
    refine g_arg 1 fx sc ag_873 (by decide) hi ?_
    refine g_arg 2 fx sc ag_879 (by decide) hi ?_
    refine g_callVD fx dL_law__885 mv_RL_167 my_X11_stands (s_X11_stands ad _ ((xs (i + 1)).toInt) ((xs (i + 2)).toInt) hR1.tw) o_223 rfl rfl rfl (Nat.le_of_ble_eq_true rfl) (by decide) ⟨by show _ ≤ 601024; omega, by show _ ≤ 7293034; omega⟩ ?_
    refine g_istore fx dL_law__888 (by decide) rfl rfl ?_
    refine g_t1 fx t1_890 ⟨by show _ ≤ 601024; omega, by show _ ≤ 7293034; omega⟩ h5 ?_
    exact g_t2 (tgt := 2273) fx t2_901 (by decide) (fun h => h8) (kk _ _ _ _ _ _ (by omega) (by omega) hR2)
  · show gw_W X FL G Z _ _ _ _ _ _ (vI (((j : Nat) : Int) + 1) :: [])
    obtain ⟨h5, hR2⟩ := (al_stands hR ((xs (i + 1)).toInt) ((xs (i + 2)).toInt)).thr hE hj (by decide) (on_stands _ ((xs (i + 1)).toInt) ((xs (i + 2)).toInt))
    refine g_istore fx dL_law__870 (by decide) rfl rfl ?_
    refine g_aload_n fx dL_law__872 rfl ?_
    refine g_arg 1 fx sc ag_873 (by decide) hi ?_
    refine g_arg 2 fx sc ag_879 (by decide) hi ?_
    refine g_callVD fx dL_law__885 mv_RL_167 my_X11_stands (s_X11_stands ad _ ((xs (i + 1)).toInt) ((xs (i + 2)).toInt) hR.tw) o_223 rfl rfl rfl (Nat.le_of_ble_eq_true rfl) (by decide) ⟨by show _ ≤ 601024; omega, by show _ ≤ 7293034; omega⟩ ?_
    refine g_istore fx dL_law__888 (by decide) rfl rfl ?_
    refine g_t1 fx t1_890 ⟨by show _ ≤ 601024; omega, by show _ ≤ 7293034; omega⟩ h5 ?_
    exact g_t2 (tgt := 2273) fx t2_901 (by decide) (fun h => absurd h (by omega)) (kk _ _ _ _ _ _ (by omega) (by omega) hR2)
set_option maxRecDepth 4000 in
theorem law_14 (fx : gw_FX X FL G) (nc : gw_NC (cS X)) (sc : gw_SC X G L xs) (hR : Rel σ σ) (hi : i + 6 ≤ L) (hb : kc + 4 ≤ 601024 ∧ ks + 24 ≤ 7293034) (kk : ∀ kc2 ks2 σ2 a b c, kc2 ≤ kc + 4 → ks2 ≤ ks + 24 → Rel σ2 σ2 → gw_W X FL G Z kc2 ks2 (gw_M0 ad) σ2 2273 (lsL i a b c) []) : gw_W X FL G Z kc ks (gw_M0 ad) σ 921 (lsL i a b c) [] := by
  refine g_aload_n fx dL_law__921 rfl ?_
  refine g_callVD fx dL_law__922 mv_RL_168 my_X10_longest (s_X10_longest ad σ ) o_0 rfl rfl rfl (Nat.le_of_ble_eq_true rfl) (by decide) ⟨by show _ ≤ 601024; omega, by show _ ≤ 7293034; omega⟩ ?_
  have hR1 := hR.oz (oz_go1 σ)
  obtain ⟨-, hv, hR2⟩ := (al_longest hR1 ).fin (on_r0 _) (fun _ _ _ => rfl)
  refine g_aload_n fx dL_law__925 rfl ?_
  refine g_callVD fx dL_law__926 mv_RL_171 my_X11_longest (s_X11_longest ad _  hR1.tw) o_223 rfl rfl rfl (Nat.le_of_ble_eq_true rfl) (by decide) ⟨by show _ ≤ 601024; omega, by show _ ≤ 7293034; omega⟩ ?_
  exact g_icmp_eq (tgt := 2273) fx dL_law__929 (by decide) (fun _ => kk _ _ _ _ _ _ (by omega) (by omega) hR2) (fun h => absurd hv h)
set_option maxRecDepth 4000 in
theorem law_15 (fx : gw_FX X FL G) (nc : gw_NC (cS X)) (sc : gw_SC X G L xs) (hR : Rel σ σ) (hi : i + 6 ≤ L) (hb : kc + 4 ≤ 601024 ∧ ks + 24 ≤ 7293034) (kk : ∀ kc2 ks2 σ2 a b c, kc2 ≤ kc + 4 → ks2 ≤ ks + 24 → Rel σ2 σ2 → gw_W X FL G Z kc2 ks2 (gw_M0 ad) σ2 2273 (lsL i a b c) []) : gw_W X FL G Z kc ks (gw_M0 ad) σ 934 (lsL i a b c) [] := by
  refine g_aload_n fx dL_law__934 rfl ?_
  refine g_arg 1 fx sc ag_935 (by decide) hi ?_
  refine g_arg 2 fx sc ag_941 (by decide) hi ?_
  refine g_aload_n fx dL_law__947 rfl ?_
  refine g_callSH fx nc dL_law__948 ms_RL_172 myH_L_ahead (w_ahead ad σ ((xs (i + 1)).toInt) ((xs (i + 2)).toInt) (al_ahead hR ((xs (i + 1)).toInt) ((xs (i + 2)).toInt)).mem) rfl rfl (Nat.le_of_ble_eq_true rfl) (by decide) ⟨by show _ ≤ 601024; omega, by show _ ≤ 7293034; omega⟩ (fun E hE => hE.elim) (fun r M2 σ2 hq _ => ?_)
  obtain ⟨rfl, ⟨h0, rfl, rfl⟩ | ⟨j, E, hE, hj, rfl, rfl⟩⟩ := hq
  · show gw_W X FL G Z _ _ _ _ _ _ (vI 0 :: [])
    have hR1 := hR.out (z := (ly σ 26 4)) (oz_ly σ) ((ld (ly σ 26 4) 26 4 ((xs (i + 1)).toInt) ((xs (i + 2)).toInt) 0))
    have al := al_ahead hR1 ((xs (i + 1)).toInt) ((xs (i + 2)).toInt)
    rw [h0] at al
    obtain ⟨h5, h8, hR2⟩ := al.fin8 (on_ahead _ ((xs (i + 1)).toInt) ((xs (i + 2)).toInt))
    refine g_istore fx dL_law__951 (by decide) rfl rfl ?_
    refine g_aload_n fx dL_law__953 rfl ?_
    refine g_arg 1 fx sc ag_954 (by decide) hi ?_
    refine g_arg 2 fx sc ag_960 (by decide) hi ?_
    refine g_callVD fx dL_law__966 mv_RL_174 my_X11_ahead (s_X11_ahead ad _ ((xs (i + 1)).toInt) ((xs (i + 2)).toInt) hR1.tw) o_223 rfl rfl rfl (Nat.le_of_ble_eq_true rfl) (by decide) ⟨by show _ ≤ 601024; omega, by show _ ≤ 7293034; omega⟩ ?_
    refine g_istore fx dL_law__969 (by decide) rfl rfl ?_
    refine g_t1 fx t1_971 ⟨by show _ ≤ 601024; omega, by show _ ≤ 7293034; omega⟩ h5 ?_
    exact g_t2 (tgt := 2273) fx t2_982 (by decide) (fun h => h8) (kk _ _ _ _ _ _ (by omega) (by omega) hR2)
  · show gw_W X FL G Z _ _ _ _ _ _ (vI (((j : Nat) : Int) + 1) :: [])
    obtain ⟨h5, hR2⟩ := (al_ahead hR ((xs (i + 1)).toInt) ((xs (i + 2)).toInt)).thr hE hj (by decide) (on_ahead _ ((xs (i + 1)).toInt) ((xs (i + 2)).toInt))
    refine g_istore fx dL_law__951 (by decide) rfl rfl ?_
    refine g_aload_n fx dL_law__953 rfl ?_
    refine g_arg 1 fx sc ag_954 (by decide) hi ?_
    refine g_arg 2 fx sc ag_960 (by decide) hi ?_
    refine g_callVD fx dL_law__966 mv_RL_174 my_X11_ahead (s_X11_ahead ad _ ((xs (i + 1)).toInt) ((xs (i + 2)).toInt) hR.tw) o_223 rfl rfl rfl (Nat.le_of_ble_eq_true rfl) (by decide) ⟨by show _ ≤ 601024; omega, by show _ ≤ 7293034; omega⟩ ?_
    refine g_istore fx dL_law__969 (by decide) rfl rfl ?_
    refine g_t1 fx t1_971 ⟨by show _ ≤ 601024; omega, by show _ ≤ 7293034; omega⟩ h5 ?_
    exact g_t2 (tgt := 2273) fx t2_982 (by decide) (fun h => absurd h (by omega)) (kk _ _ _ _ _ _ (by omega) (by omega) hR2)
end LW
