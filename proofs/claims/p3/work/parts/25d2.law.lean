/-! THE LAW, a case a call (by program: wip/gen/law2.py) -/
section LAW
variable {L i : Nat} {xs : Nat → Int32} {kc ks : Nat}
set_option maxHeartbeats 4000000 in
set_option maxRecDepth 1000000 in
theorem law_c18 (hL : L ≤ 3072) (hi : i + 6 ≤ L) (next : ∀ mx mm, RR mx mm → J m_L_law true L xs 24 kc ks 1306 (zI i) [] (HH mx mm) lawQ) {mx mm : mM} (h : RR mx mm) : J m_L_law true L xs 24 kc ks 732 (zI i) [] (HH mx mm) lawQ := by
  obtain ⟨r, mx1, mm1, h1, h2, hR⟩ := op_reckoning h ((xs (i + 1)))
  refine J_aload_n (i := 1) (a := 1) rfl rfl (dk_L_law 732 _ rfl) ?_
  refine J_sarg (k := 1) (dk_L_law 733 _ rfl) (dk_L_law 734 _ rfl) (dk_L_law 735 _ rfl) (by decide) (dk_L_law 736 _ rfl) (dk_L_law 737 _ rfl) (by omega) (by omega) ?_
  refine J_xc (ι := uI) (d' := 8) (As := [.int (xs (i + 1))]) ok_X6_reckoning vi_X6_reckoning cl_8_91 (n := 1) (by decide +kernel) rfl rfl (Nat.le_of_ble_eq_true rfl) (by decide) (dk_L_law 738 _ rfl) rfl (c_X6_reckoning mx ((xs (i + 1)))) h1 rfl ?_
  show J _ _ _ _ _ _ _ _ _ [.int r] _ _
  refine J_pop (v := .int r) rfl (dk_L_law 741 _ rfl) ?_
  refine J_aload_n (i := 2) (a := 2) rfl rfl (dk_L_law 742 _ rfl) ?_
  refine J_sarg (k := 1) (dk_L_law 743 _ rfl) (dk_L_law 744 _ rfl) (dk_L_law 745 _ rfl) (by decide) (dk_L_law 746 _ rfl) (dk_L_law 747 _ rfl) (by omega) (by omega) ?_
  refine J_mc (ι := uI) (d' := 11) (As := [.int (xs (i + 1))]) ok_X7_reckoning vi_X7_reckoning cl_8_94 (n := 1) (by decide +kernel) rfl rfl (Nat.le_of_ble_eq_true rfl) (by decide) (dk_L_law 748 _ rfl) rfl (c_X7_reckoning mm ((xs (i + 1)))) h2 rfl ?_
  show J _ _ _ _ _ _ _ _ _ [.int r] _ _
  refine J_pop (v := .int r) rfl (dk_L_law 751 _ rfl) ?_
  refine J_goto (tgt := 1306) (by decide) (dk_L_law 752 _ rfl) ?_
  exact next _ _ hR
set_option maxHeartbeats 4000000 in
set_option maxRecDepth 1000000 in
theorem law_c19 (hL : L ≤ 3072) (hi : i + 6 ≤ L) (next : ∀ mx mm, RR mx mm → J m_L_law true L xs 24 kc ks 1306 (zI i) [] (HH mx mm) lawQ) {mx mm : mM} (h : RR mx mm) : J m_L_law true L xs 24 kc ks 755 (zI i) [] (HH mx mm) lawQ := by
  obtain ⟨r, mx1, mm1, h1, h2, hR⟩ := op_high h ((xs (i + 1)))
  refine J_aload_n (i := 1) (a := 1) rfl rfl (dk_L_law 755 _ rfl) ?_
  refine J_sarg (k := 1) (dk_L_law 756 _ rfl) (dk_L_law 757 _ rfl) (dk_L_law 758 _ rfl) (by decide) (dk_L_law 759 _ rfl) (dk_L_law 760 _ rfl) (by omega) (by omega) ?_
  refine J_xc (ι := uI) (d' := 9) (As := [.int (xs (i + 1))]) ok_X6_high vi_X6_high cl_8_95 (n := 1) (by decide +kernel) rfl rfl (Nat.le_of_ble_eq_true rfl) (by decide) (dk_L_law 761 _ rfl) rfl (c_X6_high mx ((xs (i + 1)))) h1 rfl ?_
  show J _ _ _ _ _ _ _ _ _ [.int r] _ _
  refine J_pop (v := .int r) rfl (dk_L_law 764 _ rfl) ?_
  refine J_aload_n (i := 2) (a := 2) rfl rfl (dk_L_law 765 _ rfl) ?_
  refine J_sarg (k := 1) (dk_L_law 766 _ rfl) (dk_L_law 767 _ rfl) (dk_L_law 768 _ rfl) (by decide) (dk_L_law 769 _ rfl) (dk_L_law 770 _ rfl) (by omega) (by omega) ?_
  refine J_mc (ι := uI) (d' := 13) (As := [.int (xs (i + 1))]) ok_X7_high vi_X7_high cl_8_98 (n := 1) (by decide +kernel) rfl rfl (Nat.le_of_ble_eq_true rfl) (by decide) (dk_L_law 771 _ rfl) rfl (c_X7_high mm ((xs (i + 1)))) h2 rfl ?_
  show J _ _ _ _ _ _ _ _ _ [.int r] _ _
  refine J_pop (v := .int r) rfl (dk_L_law 774 _ rfl) ?_
  refine J_goto (tgt := 1306) (by decide) (dk_L_law 775 _ rfl) ?_
  exact next _ _ hR
set_option maxHeartbeats 4000000 in
set_option maxRecDepth 1000000 in
theorem law_c20 (hL : L ≤ 3072) (hi : i + 6 ≤ L) (next : ∀ mx mm, RR mx mm → J m_L_law true L xs 24 kc ks 1306 (zI i) [] (HH mx mm) lawQ) {mx mm : mM} (h : RR mx mm) : J m_L_law true L xs 24 kc ks 778 (zI i) [] (HH mx mm) lawQ := by
  obtain ⟨r, mx1, mm1, h1, h2, hR⟩ := op_last h ((xs (i + 1)))
  refine J_aload_n (i := 1) (a := 1) rfl rfl (dk_L_law 778 _ rfl) ?_
  refine J_sarg (k := 1) (dk_L_law 779 _ rfl) (dk_L_law 780 _ rfl) (dk_L_law 781 _ rfl) (by decide) (dk_L_law 782 _ rfl) (dk_L_law 783 _ rfl) (by omega) (by omega) ?_
  refine J_xc (ι := uI) (d' := 8) (As := [.int (xs (i + 1))]) ok_X6_last vi_X6_last cl_8_99 (n := 1) (by decide +kernel) rfl rfl (Nat.le_of_ble_eq_true rfl) (by decide) (dk_L_law 784 _ rfl) rfl (c_X6_last mx ((xs (i + 1)))) h1 rfl ?_
  show J _ _ _ _ _ _ _ _ _ [.int r] _ _
  refine J_pop (v := .int r) rfl (dk_L_law 787 _ rfl) ?_
  refine J_aload_n (i := 2) (a := 2) rfl rfl (dk_L_law 788 _ rfl) ?_
  refine J_sarg (k := 1) (dk_L_law 789 _ rfl) (dk_L_law 790 _ rfl) (dk_L_law 791 _ rfl) (by decide) (dk_L_law 792 _ rfl) (dk_L_law 793 _ rfl) (by omega) (by omega) ?_
  refine J_mc (ι := uI) (d' := 12) (As := [.int (xs (i + 1))]) ok_X7_last vi_X7_last cl_8_102 (n := 1) (by decide +kernel) rfl rfl (Nat.le_of_ble_eq_true rfl) (by decide) (dk_L_law 794 _ rfl) rfl (c_X7_last mm ((xs (i + 1)))) h2 rfl ?_
  show J _ _ _ _ _ _ _ _ _ [.int r] _ _
  refine J_pop (v := .int r) rfl (dk_L_law 797 _ rfl) ?_
  refine J_goto (tgt := 1306) (by decide) (dk_L_law 798 _ rfl) ?_
  exact next _ _ hR
set_option maxHeartbeats 4000000 in
set_option maxRecDepth 1000000 in
theorem law_c21 (hL : L ≤ 3072) (hi : i + 6 ≤ L) (next : ∀ mx mm, RR mx mm → J m_L_law true L xs 24 kc ks 1306 (zI i) [] (HH mx mm) lawQ) {mx mm : mM} (h : RR mx mm) : J m_L_law true L xs 24 kc ks 801 (zI i) [] (HH mx mm) lawQ := by
  obtain ⟨r, mx1, mm1, h1, h2, hR⟩ := op_odds h ((xs (i + 1))) ((xs (i + 2))) ((xs (i + 3)))
  refine J_aload_n (i := 1) (a := 1) rfl rfl (dk_L_law 801 _ rfl) ?_
  refine J_sarg (k := 1) (dk_L_law 802 _ rfl) (dk_L_law 803 _ rfl) (dk_L_law 804 _ rfl) (by decide) (dk_L_law 805 _ rfl) (dk_L_law 806 _ rfl) (by omega) (by omega) ?_
  refine J_sarg (k := 2) (dk_L_law 807 _ rfl) (dk_L_law 808 _ rfl) (dk_L_law 809 _ rfl) (by decide) (dk_L_law 810 _ rfl) (dk_L_law 811 _ rfl) (by omega) (by omega) ?_
  refine J_sarg (k := 3) (dk_L_law 812 _ rfl) (dk_L_law 813 _ rfl) (dk_L_law 814 _ rfl) (by decide) (dk_L_law 815 _ rfl) (dk_L_law 816 _ rfl) (by omega) (by omega) ?_
  refine J_xc (ι := uL) (d' := 8) (As := [.int (xs (i + 1)), .int (xs (i + 2)), .int (xs (i + 3))]) ok_X6_odds vi_X6_odds cl_8_103 (n := 3) (by decide +kernel) rfl rfl (Nat.le_of_ble_eq_true rfl) (by decide) (dk_L_law 817 _ rfl) rfl (c_X6_odds mx ((xs (i + 1))) ((xs (i + 2))) ((xs (i + 3)))) h1 rfl ?_
  show J _ _ _ _ _ _ _ _ _ [.long r] _ _
  refine J_pop2 (v := .long r) rfl (dk_L_law 820 _ rfl) ?_
  refine J_aload_n (i := 2) (a := 2) rfl rfl (dk_L_law 821 _ rfl) ?_
  refine J_sarg (k := 1) (dk_L_law 822 _ rfl) (dk_L_law 823 _ rfl) (dk_L_law 824 _ rfl) (by decide) (dk_L_law 825 _ rfl) (dk_L_law 826 _ rfl) (by omega) (by omega) ?_
  refine J_sarg (k := 2) (dk_L_law 827 _ rfl) (dk_L_law 828 _ rfl) (dk_L_law 829 _ rfl) (by decide) (dk_L_law 830 _ rfl) (dk_L_law 831 _ rfl) (by omega) (by omega) ?_
  refine J_sarg (k := 3) (dk_L_law 832 _ rfl) (dk_L_law 833 _ rfl) (dk_L_law 834 _ rfl) (by decide) (dk_L_law 835 _ rfl) (dk_L_law 836 _ rfl) (by omega) (by omega) ?_
  refine J_mc (ι := uL) (d' := 12) (As := [.int (xs (i + 1)), .int (xs (i + 2)), .int (xs (i + 3))]) ok_X7_odds vi_X7_odds cl_8_107 (n := 3) (by decide +kernel) rfl rfl (Nat.le_of_ble_eq_true rfl) (by decide) (dk_L_law 837 _ rfl) rfl (c_X7_odds mm ((xs (i + 1))) ((xs (i + 2))) ((xs (i + 3)))) h2 rfl ?_
  show J _ _ _ _ _ _ _ _ _ [.long r] _ _
  refine J_pop2 (v := .long r) rfl (dk_L_law 840 _ rfl) ?_
  refine J_goto (tgt := 1306) (by decide) (dk_L_law 841 _ rfl) ?_
  exact next _ _ hR
set_option maxHeartbeats 4000000 in
set_option maxRecDepth 1000000 in
theorem law_c22 (hL : L ≤ 3072) (hi : i + 6 ≤ L) (next : ∀ mx mm, RR mx mm → J m_L_law true L xs 24 kc ks 1306 (zI i) [] (HH mx mm) lawQ) {mx mm : mM} (h : RR mx mm) : J m_L_law true L xs 24 kc ks 844 (zI i) [] (HH mx mm) lawQ := by
  obtain ⟨r, mx1, mm1, h1, h2, hR⟩ := op_mean h ((xs (i + 1)))
  refine J_aload_n (i := 1) (a := 1) rfl rfl (dk_L_law 844 _ rfl) ?_
  refine J_sarg (k := 1) (dk_L_law 845 _ rfl) (dk_L_law 846 _ rfl) (dk_L_law 847 _ rfl) (by decide) (dk_L_law 848 _ rfl) (dk_L_law 849 _ rfl) (by omega) (by omega) ?_
  refine J_xc (ι := uL) (d' := 8) (As := [.int (xs (i + 1))]) ok_X6_mean vi_X6_mean cl_8_108 (n := 1) (by decide +kernel) rfl rfl (Nat.le_of_ble_eq_true rfl) (by decide) (dk_L_law 850 _ rfl) rfl (c_X6_mean mx ((xs (i + 1)))) h1 rfl ?_
  show J _ _ _ _ _ _ _ _ _ [.long r] _ _
  refine J_pop2 (v := .long r) rfl (dk_L_law 853 _ rfl) ?_
  refine J_aload_n (i := 2) (a := 2) rfl rfl (dk_L_law 854 _ rfl) ?_
  refine J_sarg (k := 1) (dk_L_law 855 _ rfl) (dk_L_law 856 _ rfl) (dk_L_law 857 _ rfl) (by decide) (dk_L_law 858 _ rfl) (dk_L_law 859 _ rfl) (by omega) (by omega) ?_
  refine J_mc (ι := uL) (d' := 11) (As := [.int (xs (i + 1))]) ok_X7_mean vi_X7_mean cl_8_112 (n := 1) (by decide +kernel) rfl rfl (Nat.le_of_ble_eq_true rfl) (by decide) (dk_L_law 860 _ rfl) rfl (c_X7_mean mm ((xs (i + 1)))) h2 rfl ?_
  show J _ _ _ _ _ _ _ _ _ [.long r] _ _
  refine J_pop2 (v := .long r) rfl (dk_L_law 863 _ rfl) ?_
  refine J_goto (tgt := 1306) (by decide) (dk_L_law 864 _ rfl) ?_
  exact next _ _ hR
set_option maxHeartbeats 4000000 in
set_option maxRecDepth 1000000 in
theorem law_c23 (hL : L ≤ 3072) (hi : i + 6 ≤ L) (next : ∀ mx mm, RR mx mm → J m_L_law true L xs 24 kc ks 1306 (zI i) [] (HH mx mm) lawQ) {mx mm : mM} (h : RR mx mm) : J m_L_law true L xs 24 kc ks 867 (zI i) [] (HH mx mm) lawQ := by
  obtain ⟨r, mx1, mm1, h1, h2, hR⟩ := op_book h ((xs (i + 1)))
  refine J_aload_n (i := 1) (a := 1) rfl rfl (dk_L_law 867 _ rfl) ?_
  refine J_sarg (k := 1) (dk_L_law 868 _ rfl) (dk_L_law 869 _ rfl) (dk_L_law 870 _ rfl) (by decide) (dk_L_law 871 _ rfl) (dk_L_law 872 _ rfl) (by omega) (by omega) ?_
  refine J_xc (ι := uI) (d' := 2) (As := [.int (xs (i + 1))]) ok_X6_book vi_X6_book cl_8_113 (n := 1) (by decide +kernel) rfl rfl (Nat.le_of_ble_eq_true rfl) (by decide) (dk_L_law 873 _ rfl) rfl (c_X6_book mx ((xs (i + 1)))) h1 rfl ?_
  show J _ _ _ _ _ _ _ _ _ [.int r] _ _
  refine J_pop (v := .int r) rfl (dk_L_law 876 _ rfl) ?_
  refine J_aload_n (i := 2) (a := 2) rfl rfl (dk_L_law 877 _ rfl) ?_
  refine J_sarg (k := 1) (dk_L_law 878 _ rfl) (dk_L_law 879 _ rfl) (dk_L_law 880 _ rfl) (by decide) (dk_L_law 881 _ rfl) (dk_L_law 882 _ rfl) (by omega) (by omega) ?_
  refine J_mc (ι := uI) (d' := 3) (As := [.int (xs (i + 1))]) ok_X7_book vi_X7_book cl_8_116 (n := 1) (by decide +kernel) rfl rfl (Nat.le_of_ble_eq_true rfl) (by decide) (dk_L_law 883 _ rfl) rfl (c_X7_book mm ((xs (i + 1)))) h2 rfl ?_
  show J _ _ _ _ _ _ _ _ _ [.int r] _ _
  refine J_pop (v := .int r) rfl (dk_L_law 886 _ rfl) ?_
  refine J_goto (tgt := 1306) (by decide) (dk_L_law 887 _ rfl) ?_
  exact next _ _ hR
set_option maxHeartbeats 4000000 in
set_option maxRecDepth 1000000 in
theorem law_c24 (hL : L ≤ 3072) (hi : i + 6 ≤ L) (next : ∀ mx mm, RR mx mm → J m_L_law true L xs 24 kc ks 1306 (zI i) [] (HH mx mm) lawQ) {mx mm : mM} (h : RR mx mm) : J m_L_law true L xs 24 kc ks 890 (zI i) [] (HH mx mm) lawQ := by
  obtain ⟨r, mx1, mm1, h1, h2, hR⟩ := op_looked h ((xs (i + 1)))
  refine J_aload_n (i := 1) (a := 1) rfl rfl (dk_L_law 890 _ rfl) ?_
  refine J_sarg (k := 1) (dk_L_law 891 _ rfl) (dk_L_law 892 _ rfl) (dk_L_law 893 _ rfl) (by decide) (dk_L_law 894 _ rfl) (dk_L_law 895 _ rfl) (by omega) (by omega) ?_
  refine J_xc (ι := uI) (d' := 7) (As := [.int (xs (i + 1))]) ok_X6_looked vi_X6_looked cl_8_117 (n := 1) (by decide +kernel) rfl rfl (Nat.le_of_ble_eq_true rfl) (by decide) (dk_L_law 896 _ rfl) rfl (c_X6_looked mx ((xs (i + 1)))) h1 rfl ?_
  show J _ _ _ _ _ _ _ _ _ [.int r] _ _
  refine J_pop (v := .int r) rfl (dk_L_law 899 _ rfl) ?_
  refine J_aload_n (i := 2) (a := 2) rfl rfl (dk_L_law 900 _ rfl) ?_
  refine J_sarg (k := 1) (dk_L_law 901 _ rfl) (dk_L_law 902 _ rfl) (dk_L_law 903 _ rfl) (by decide) (dk_L_law 904 _ rfl) (dk_L_law 905 _ rfl) (by omega) (by omega) ?_
  refine J_mc (ι := uI) (d' := 9) (As := [.int (xs (i + 1))]) ok_X7_looked vi_X7_looked cl_8_120 (n := 1) (by decide +kernel) rfl rfl (Nat.le_of_ble_eq_true rfl) (by decide) (dk_L_law 906 _ rfl) rfl (c_X7_looked mm ((xs (i + 1)))) h2 rfl ?_
  show J _ _ _ _ _ _ _ _ _ [.int r] _ _
  refine J_pop (v := .int r) rfl (dk_L_law 909 _ rfl) ?_
  refine J_goto (tgt := 1306) (by decide) (dk_L_law 910 _ rfl) ?_
  exact next _ _ hR
set_option maxHeartbeats 4000000 in
set_option maxRecDepth 1000000 in
theorem law_c25 (hL : L ≤ 3072) (hi : i + 6 ≤ L) (next : ∀ mx mm, RR mx mm → J m_L_law true L xs 24 kc ks 1306 (zI i) [] (HH mx mm) lawQ) {mx mm : mM} (h : RR mx mm) : J m_L_law true L xs 24 kc ks 913 (zI i) [] (HH mx mm) lawQ := by
  obtain ⟨r, mx1, mm1, h1, h2, hR⟩ := op_judge h ((xs (i + 1))) ((xs (i + 2)))
  refine J_aload_n (i := 1) (a := 1) rfl rfl (dk_L_law 913 _ rfl) ?_
  refine J_sarg (k := 1) (dk_L_law 914 _ rfl) (dk_L_law 915 _ rfl) (dk_L_law 916 _ rfl) (by decide) (dk_L_law 917 _ rfl) (dk_L_law 918 _ rfl) (by omega) (by omega) ?_
  refine J_sarg (k := 2) (dk_L_law 919 _ rfl) (dk_L_law 920 _ rfl) (dk_L_law 921 _ rfl) (by decide) (dk_L_law 922 _ rfl) (dk_L_law 923 _ rfl) (by omega) (by omega) ?_
  refine J_xc (ι := uI) (d' := 3) (As := [.int (xs (i + 1)), .int (xs (i + 2))]) ok_X6_judge vi_X6_judge cl_8_121 (n := 2) (by decide +kernel) rfl rfl (Nat.le_of_ble_eq_true rfl) (by decide) (dk_L_law 924 _ rfl) rfl (c_X6_judge mx ((xs (i + 1))) ((xs (i + 2)))) h1 rfl ?_
  show J _ _ _ _ _ _ _ _ _ [.int r] _ _
  refine J_pop (v := .int r) rfl (dk_L_law 927 _ rfl) ?_
  refine J_aload_n (i := 2) (a := 2) rfl rfl (dk_L_law 928 _ rfl) ?_
  refine J_sarg (k := 1) (dk_L_law 929 _ rfl) (dk_L_law 930 _ rfl) (dk_L_law 931 _ rfl) (by decide) (dk_L_law 932 _ rfl) (dk_L_law 933 _ rfl) (by omega) (by omega) ?_
  refine J_sarg (k := 2) (dk_L_law 934 _ rfl) (dk_L_law 935 _ rfl) (dk_L_law 936 _ rfl) (by decide) (dk_L_law 937 _ rfl) (dk_L_law 938 _ rfl) (by omega) (by omega) ?_
  refine J_mc (ι := uI) (d' := 4) (As := [.int (xs (i + 1)), .int (xs (i + 2))]) ok_X7_judge vi_X7_judge cl_8_124 (n := 2) (by decide +kernel) rfl rfl (Nat.le_of_ble_eq_true rfl) (by decide) (dk_L_law 939 _ rfl) rfl (c_X7_judge mm ((xs (i + 1))) ((xs (i + 2)))) h2 rfl ?_
  show J _ _ _ _ _ _ _ _ _ [.int r] _ _
  refine J_pop (v := .int r) rfl (dk_L_law 942 _ rfl) ?_
  refine J_goto (tgt := 1306) (by decide) (dk_L_law 943 _ rfl) ?_
  exact next _ _ hR
set_option maxHeartbeats 4000000 in
set_option maxRecDepth 1000000 in
theorem law_c26 (hL : L ≤ 3072) (hi : i + 6 ≤ L) (next : ∀ mx mm, RR mx mm → J m_L_law true L xs 24 kc ks 1306 (zI i) [] (HH mx mm) lawQ) {mx mm : mM} (h : RR mx mm) : J m_L_law true L xs 24 kc ks 946 (zI i) [] (HH mx mm) lawQ := by
  obtain ⟨r, mx1, mm1, h1, h2, hR⟩ := op_image h 
  refine J_aload_n (i := 1) (a := 1) rfl rfl (dk_L_law 946 _ rfl) ?_
  refine J_xc (ι := uI) (d' := 3) (As := []) ok_X6_image vi_X6_image cl_8_125 (n := 0) (by decide +kernel) rfl rfl (Nat.le_of_ble_eq_true rfl) (by decide) (dk_L_law 947 _ rfl) rfl (c_X6_image mx ) h1 rfl ?_
  show J _ _ _ _ _ _ _ _ _ [.int r] _ _
  refine J_pop (v := .int r) rfl (dk_L_law 950 _ rfl) ?_
  refine J_aload_n (i := 2) (a := 2) rfl rfl (dk_L_law 951 _ rfl) ?_
  refine J_mc (ι := uI) (d' := 2) (As := []) ok_X7_image vi_X7_image cl_8_128 (n := 0) (by decide +kernel) rfl rfl (Nat.le_of_ble_eq_true rfl) (by decide) (dk_L_law 952 _ rfl) rfl (c_X7_image mm ) h2 rfl ?_
  show J _ _ _ _ _ _ _ _ _ [.int r] _ _
  refine J_pop (v := .int r) rfl (dk_L_law 955 _ rfl) ?_
  refine J_goto (tgt := 1306) (by decide) (dk_L_law 956 _ rfl) ?_
  exact next _ _ hR
set_option maxHeartbeats 4000000 in
set_option maxRecDepth 1000000 in
theorem law_c27 (hL : L ≤ 3072) (hi : i + 6 ≤ L) (next : ∀ mx mm, RR mx mm → J m_L_law true L xs 24 kc ks 1306 (zI i) [] (HH mx mm) lawQ) {mx mm : mM} (h : RR mx mm) : J m_L_law true L xs 24 kc ks 959 (zI i) [] (HH mx mm) lawQ := by
  obtain ⟨r, mx1, mm1, h1, h2, hR⟩ := op_undo h 
  refine J_aload_n (i := 1) (a := 1) rfl rfl (dk_L_law 959 _ rfl) ?_
  refine J_xc (ι := uI) (d' := 3) (As := []) ok_X6_undo vi_X6_undo cl_8_129 (n := 0) (by decide +kernel) rfl rfl (Nat.le_of_ble_eq_true rfl) (by decide) (dk_L_law 960 _ rfl) rfl (c_X6_undo mx ) h1 rfl ?_
  show J _ _ _ _ _ _ _ _ _ [.int r] _ _
  refine J_pop (v := .int r) rfl (dk_L_law 963 _ rfl) ?_
  refine J_aload_n (i := 2) (a := 2) rfl rfl (dk_L_law 964 _ rfl) ?_
  refine J_mc (ι := uI) (d' := 2) (As := []) ok_X7_undo vi_X7_undo cl_8_132 (n := 0) (by decide +kernel) rfl rfl (Nat.le_of_ble_eq_true rfl) (by decide) (dk_L_law 965 _ rfl) rfl (c_X7_undo mm ) h2 rfl ?_
  show J _ _ _ _ _ _ _ _ _ [.int r] _ _
  refine J_pop (v := .int r) rfl (dk_L_law 968 _ rfl) ?_
  refine J_goto (tgt := 1306) (by decide) (dk_L_law 969 _ rfl) ?_
  exact next _ _ hR
set_option maxHeartbeats 4000000 in
set_option maxRecDepth 1000000 in
theorem law_c28 (hL : L ≤ 3072) (hi : i + 6 ≤ L) (next : ∀ mx mm, RR mx mm → J m_L_law true L xs 24 kc ks 1306 (zI i) [] (HH mx mm) lawQ) {mx mm : mM} (h : RR mx mm) : J m_L_law true L xs 24 kc ks 972 (zI i) [] (HH mx mm) lawQ := by
  obtain ⟨r, mx1, mm1, h1, h2, hR⟩ := op_act h ((xs (i + 1))) ((xs (i + 2))) ((xs (i + 3)))
  refine J_aload_n (i := 1) (a := 1) rfl rfl (dk_L_law 972 _ rfl) ?_
  refine J_sarg (k := 1) (dk_L_law 973 _ rfl) (dk_L_law 974 _ rfl) (dk_L_law 975 _ rfl) (by decide) (dk_L_law 976 _ rfl) (dk_L_law 977 _ rfl) (by omega) (by omega) ?_
  refine J_sarg (k := 2) (dk_L_law 978 _ rfl) (dk_L_law 979 _ rfl) (dk_L_law 980 _ rfl) (by decide) (dk_L_law 981 _ rfl) (dk_L_law 982 _ rfl) (by omega) (by omega) ?_
  refine J_sarg (k := 3) (dk_L_law 983 _ rfl) (dk_L_law 984 _ rfl) (dk_L_law 985 _ rfl) (by decide) (dk_L_law 986 _ rfl) (dk_L_law 987 _ rfl) (by omega) (by omega) ?_
  refine J_xc (ι := uI) (d' := 13) (As := [.int (xs (i + 1)), .int (xs (i + 2)), .int (xs (i + 3))]) ok_X6_act vi_X6_act cl_8_133 (n := 3) (by decide +kernel) rfl rfl (Nat.le_of_ble_eq_true rfl) (by decide) (dk_L_law 988 _ rfl) rfl (c_X6_act mx ((xs (i + 1))) ((xs (i + 2))) ((xs (i + 3)))) h1 rfl ?_
  show J _ _ _ _ _ _ _ _ _ [.int r] _ _
  refine J_pop (v := .int r) rfl (dk_L_law 991 _ rfl) ?_
  refine J_aload_n (i := 2) (a := 2) rfl rfl (dk_L_law 992 _ rfl) ?_
  refine J_sarg (k := 1) (dk_L_law 993 _ rfl) (dk_L_law 994 _ rfl) (dk_L_law 995 _ rfl) (by decide) (dk_L_law 996 _ rfl) (dk_L_law 997 _ rfl) (by omega) (by omega) ?_
  refine J_sarg (k := 2) (dk_L_law 998 _ rfl) (dk_L_law 999 _ rfl) (dk_L_law 1000 _ rfl) (by decide) (dk_L_law 1001 _ rfl) (dk_L_law 1002 _ rfl) (by omega) (by omega) ?_
  refine J_sarg (k := 3) (dk_L_law 1003 _ rfl) (dk_L_law 1004 _ rfl) (dk_L_law 1005 _ rfl) (by decide) (dk_L_law 1006 _ rfl) (dk_L_law 1007 _ rfl) (by omega) (by omega) ?_
  refine J_mc (ι := uI) (d' := 10) (As := [.int (xs (i + 1)), .int (xs (i + 2)), .int (xs (i + 3))]) ok_X7_act vi_X7_act cl_8_136 (n := 3) (by decide +kernel) rfl rfl (Nat.le_of_ble_eq_true rfl) (by decide) (dk_L_law 1008 _ rfl) rfl (c_X7_act mm ((xs (i + 1))) ((xs (i + 2))) ((xs (i + 3)))) h2 rfl ?_
  show J _ _ _ _ _ _ _ _ _ [.int r] _ _
  refine J_pop (v := .int r) rfl (dk_L_law 1011 _ rfl) ?_
  refine J_goto (tgt := 1306) (by decide) (dk_L_law 1012 _ rfl) ?_
  exact next _ _ hR
set_option maxHeartbeats 4000000 in
set_option maxRecDepth 1000000 in
theorem law_c29 (hL : L ≤ 3072) (hi : i + 6 ≤ L) (next : ∀ mx mm, RR mx mm → J m_L_law true L xs 24 kc ks 1306 (zI i) [] (HH mx mm) lawQ) {mx mm : mM} (h : RR mx mm) : J m_L_law true L xs 24 kc ks 1015 (zI i) [] (HH mx mm) lawQ := by
  obtain ⟨r, mx1, mm1, h1, h2, hR⟩ := op_trace h ((xs (i + 1)))
  refine J_aload_n (i := 1) (a := 1) rfl rfl (dk_L_law 1015 _ rfl) ?_
  refine J_sarg (k := 1) (dk_L_law 1016 _ rfl) (dk_L_law 1017 _ rfl) (dk_L_law 1018 _ rfl) (by decide) (dk_L_law 1019 _ rfl) (dk_L_law 1020 _ rfl) (by omega) (by omega) ?_
  refine J_xc (ι := uI) (d' := 2) (As := [.int (xs (i + 1))]) ok_X6_trace vi_X6_trace cl_8_137 (n := 1) (by decide +kernel) rfl rfl (Nat.le_of_ble_eq_true rfl) (by decide) (dk_L_law 1021 _ rfl) rfl (c_X6_trace mx ((xs (i + 1)))) h1 rfl ?_
  show J _ _ _ _ _ _ _ _ _ [.int r] _ _
  refine J_pop (v := .int r) rfl (dk_L_law 1024 _ rfl) ?_
  refine J_aload_n (i := 2) (a := 2) rfl rfl (dk_L_law 1025 _ rfl) ?_
  refine J_sarg (k := 1) (dk_L_law 1026 _ rfl) (dk_L_law 1027 _ rfl) (dk_L_law 1028 _ rfl) (by decide) (dk_L_law 1029 _ rfl) (dk_L_law 1030 _ rfl) (by omega) (by omega) ?_
  refine J_mc (ι := uI) (d' := 3) (As := [.int (xs (i + 1))]) ok_X7_trace vi_X7_trace cl_8_140 (n := 1) (by decide +kernel) rfl rfl (Nat.le_of_ble_eq_true rfl) (by decide) (dk_L_law 1031 _ rfl) rfl (c_X7_trace mm ((xs (i + 1)))) h2 rfl ?_
  show J _ _ _ _ _ _ _ _ _ [.int r] _ _
  refine J_pop (v := .int r) rfl (dk_L_law 1034 _ rfl) ?_
  refine J_goto (tgt := 1306) (by decide) (dk_L_law 1035 _ rfl) ?_
  exact next _ _ hR
set_option maxHeartbeats 4000000 in
set_option maxRecDepth 1000000 in
theorem law_c30 (hL : L ≤ 3072) (hi : i + 6 ≤ L) (next : ∀ mx mm, RR mx mm → J m_L_law true L xs 24 kc ks 1306 (zI i) [] (HH mx mm) lawQ) {mx mm : mM} (h : RR mx mm) : J m_L_law true L xs 24 kc ks 1038 (zI i) [] (HH mx mm) lawQ := by
  obtain ⟨r, mx1, mm1, h1, h2, hR⟩ := op_taken h ((xs (i + 1))) ((xs (i + 2)))
  refine J_aload_n (i := 1) (a := 1) rfl rfl (dk_L_law 1038 _ rfl) ?_
  refine J_sarg (k := 1) (dk_L_law 1039 _ rfl) (dk_L_law 1040 _ rfl) (dk_L_law 1041 _ rfl) (by decide) (dk_L_law 1042 _ rfl) (dk_L_law 1043 _ rfl) (by omega) (by omega) ?_
  refine J_sarg (k := 2) (dk_L_law 1044 _ rfl) (dk_L_law 1045 _ rfl) (dk_L_law 1046 _ rfl) (by decide) (dk_L_law 1047 _ rfl) (dk_L_law 1048 _ rfl) (by omega) (by omega) ?_
  refine J_xc (ι := uI) (d' := 3) (As := [.int (xs (i + 1)), .int (xs (i + 2))]) ok_X6_taken vi_X6_taken cl_8_141 (n := 2) (by decide +kernel) rfl rfl (Nat.le_of_ble_eq_true rfl) (by decide) (dk_L_law 1049 _ rfl) rfl (c_X6_taken mx ((xs (i + 1))) ((xs (i + 2)))) h1 rfl ?_
  show J _ _ _ _ _ _ _ _ _ [.int r] _ _
  refine J_pop (v := .int r) rfl (dk_L_law 1052 _ rfl) ?_
  refine J_aload_n (i := 2) (a := 2) rfl rfl (dk_L_law 1053 _ rfl) ?_
  refine J_sarg (k := 1) (dk_L_law 1054 _ rfl) (dk_L_law 1055 _ rfl) (dk_L_law 1056 _ rfl) (by decide) (dk_L_law 1057 _ rfl) (dk_L_law 1058 _ rfl) (by omega) (by omega) ?_
  refine J_sarg (k := 2) (dk_L_law 1059 _ rfl) (dk_L_law 1060 _ rfl) (dk_L_law 1061 _ rfl) (by decide) (dk_L_law 1062 _ rfl) (dk_L_law 1063 _ rfl) (by omega) (by omega) ?_
  refine J_mc (ι := uI) (d' := 4) (As := [.int (xs (i + 1)), .int (xs (i + 2))]) ok_X7_taken vi_X7_taken cl_8_144 (n := 2) (by decide +kernel) rfl rfl (Nat.le_of_ble_eq_true rfl) (by decide) (dk_L_law 1064 _ rfl) rfl (c_X7_taken mm ((xs (i + 1))) ((xs (i + 2)))) h2 rfl ?_
  show J _ _ _ _ _ _ _ _ _ [.int r] _ _
  refine J_pop (v := .int r) rfl (dk_L_law 1067 _ rfl) ?_
  refine J_goto (tgt := 1306) (by decide) (dk_L_law 1068 _ rfl) ?_
  exact next _ _ hR
set_option maxHeartbeats 4000000 in
set_option maxRecDepth 1000000 in
theorem law_c31 (hL : L ≤ 3072) (hi : i + 6 ≤ L) (next : ∀ mx mm, RR mx mm → J m_L_law true L xs 24 kc ks 1306 (zI i) [] (HH mx mm) lawQ) {mx mm : mM} (h : RR mx mm) : J m_L_law true L xs 24 kc ks 1071 (zI i) [] (HH mx mm) lawQ := by
  obtain ⟨r, mx1, mm1, h1, h2, hR⟩ := op_count h ((xs (i + 1)))
  refine J_aload_n (i := 1) (a := 1) rfl rfl (dk_L_law 1071 _ rfl) ?_
  refine J_sarg (k := 1) (dk_L_law 1072 _ rfl) (dk_L_law 1073 _ rfl) (dk_L_law 1074 _ rfl) (by decide) (dk_L_law 1075 _ rfl) (dk_L_law 1076 _ rfl) (by omega) (by omega) ?_
  refine J_xc (ι := uI) (d' := 2) (As := [.int (xs (i + 1))]) ok_X6_count vi_X6_count cl_8_145 (n := 1) (by decide +kernel) rfl rfl (Nat.le_of_ble_eq_true rfl) (by decide) (dk_L_law 1077 _ rfl) rfl (c_X6_count mx ((xs (i + 1)))) h1 rfl ?_
  show J _ _ _ _ _ _ _ _ _ [.int r] _ _
  refine J_pop (v := .int r) rfl (dk_L_law 1080 _ rfl) ?_
  refine J_aload_n (i := 2) (a := 2) rfl rfl (dk_L_law 1081 _ rfl) ?_
  refine J_sarg (k := 1) (dk_L_law 1082 _ rfl) (dk_L_law 1083 _ rfl) (dk_L_law 1084 _ rfl) (by decide) (dk_L_law 1085 _ rfl) (dk_L_law 1086 _ rfl) (by omega) (by omega) ?_
  refine J_mc (ι := uI) (d' := 2) (As := [.int (xs (i + 1))]) ok_X7_count vi_X7_count cl_8_148 (n := 1) (by decide +kernel) rfl rfl (Nat.le_of_ble_eq_true rfl) (by decide) (dk_L_law 1087 _ rfl) rfl (c_X7_count mm ((xs (i + 1)))) h2 rfl ?_
  show J _ _ _ _ _ _ _ _ _ [.int r] _ _
  refine J_pop (v := .int r) rfl (dk_L_law 1090 _ rfl) ?_
  refine J_goto (tgt := 1306) (by decide) (dk_L_law 1091 _ rfl) ?_
  exact next _ _ hR
set_option maxHeartbeats 4000000 in
set_option maxRecDepth 1000000 in
theorem law_c32 (hL : L ≤ 3072) (hi : i + 6 ≤ L) (next : ∀ mx mm, RR mx mm → J m_L_law true L xs 24 kc ks 1306 (zI i) [] (HH mx mm) lawQ) {mx mm : mM} (h : RR mx mm) : J m_L_law true L xs 24 kc ks 1094 (zI i) [] (HH mx mm) lawQ := by
  obtain ⟨r, mx1, mm1, h1, h2, hR⟩ := op_tape h ((xs (i + 1))) ((xs (i + 2))) ((xs (i + 3)))
  refine J_aload_n (i := 1) (a := 1) rfl rfl (dk_L_law 1094 _ rfl) ?_
  refine J_sarg (k := 1) (dk_L_law 1095 _ rfl) (dk_L_law 1096 _ rfl) (dk_L_law 1097 _ rfl) (by decide) (dk_L_law 1098 _ rfl) (dk_L_law 1099 _ rfl) (by omega) (by omega) ?_
  refine J_sarg (k := 2) (dk_L_law 1100 _ rfl) (dk_L_law 1101 _ rfl) (dk_L_law 1102 _ rfl) (by decide) (dk_L_law 1103 _ rfl) (dk_L_law 1104 _ rfl) (by omega) (by omega) ?_
  refine J_sarg (k := 3) (dk_L_law 1105 _ rfl) (dk_L_law 1106 _ rfl) (dk_L_law 1107 _ rfl) (by decide) (dk_L_law 1108 _ rfl) (dk_L_law 1109 _ rfl) (by omega) (by omega) ?_
  refine J_xc (ι := uI) (d' := 3) (As := [.int (xs (i + 1)), .int (xs (i + 2)), .int (xs (i + 3))]) ok_X6_tape vi_X6_tape cl_8_149 (n := 3) (by decide +kernel) rfl rfl (Nat.le_of_ble_eq_true rfl) (by decide) (dk_L_law 1110 _ rfl) rfl (c_X6_tape mx ((xs (i + 1))) ((xs (i + 2))) ((xs (i + 3)))) h1 rfl ?_
  show J _ _ _ _ _ _ _ _ _ [.int r] _ _
  refine J_pop (v := .int r) rfl (dk_L_law 1113 _ rfl) ?_
  refine J_aload_n (i := 2) (a := 2) rfl rfl (dk_L_law 1114 _ rfl) ?_
  refine J_sarg (k := 1) (dk_L_law 1115 _ rfl) (dk_L_law 1116 _ rfl) (dk_L_law 1117 _ rfl) (by decide) (dk_L_law 1118 _ rfl) (dk_L_law 1119 _ rfl) (by omega) (by omega) ?_
  refine J_sarg (k := 2) (dk_L_law 1120 _ rfl) (dk_L_law 1121 _ rfl) (dk_L_law 1122 _ rfl) (by decide) (dk_L_law 1123 _ rfl) (dk_L_law 1124 _ rfl) (by omega) (by omega) ?_
  refine J_sarg (k := 3) (dk_L_law 1125 _ rfl) (dk_L_law 1126 _ rfl) (dk_L_law 1127 _ rfl) (by decide) (dk_L_law 1128 _ rfl) (dk_L_law 1129 _ rfl) (by omega) (by omega) ?_
  refine J_mc (ι := uI) (d' := 4) (As := [.int (xs (i + 1)), .int (xs (i + 2)), .int (xs (i + 3))]) ok_X7_tape vi_X7_tape cl_8_152 (n := 3) (by decide +kernel) rfl rfl (Nat.le_of_ble_eq_true rfl) (by decide) (dk_L_law 1130 _ rfl) rfl (c_X7_tape mm ((xs (i + 1))) ((xs (i + 2))) ((xs (i + 3)))) h2 rfl ?_
  show J _ _ _ _ _ _ _ _ _ [.int r] _ _
  refine J_pop (v := .int r) rfl (dk_L_law 1133 _ rfl) ?_
  refine J_goto (tgt := 1306) (by decide) (dk_L_law 1134 _ rfl) ?_
  exact next _ _ hR
set_option maxHeartbeats 4000000 in
set_option maxRecDepth 1000000 in
theorem law_c33 (hL : L ≤ 3072) (hi : i + 6 ≤ L) (next : ∀ mx mm, RR mx mm → J m_L_law true L xs 24 kc ks 1306 (zI i) [] (HH mx mm) lawQ) {mx mm : mM} (h : RR mx mm) : J m_L_law true L xs 24 kc ks 1137 (zI i) [] (HH mx mm) lawQ := by
  obtain ⟨r, mx1, mm1, h1, h2, hR⟩ := op_item h ((xs (i + 1))) ((xs (i + 2))) ((((xs (i + 3)).toInt64 <<< ((32 : Int32).toInt64 &&& 63)) ||| ((xs (i + 4)).toInt64 &&& 4294967295)))
  refine J_aload_n (i := 1) (a := 1) rfl rfl (dk_L_law 1137 _ rfl) ?_
  refine J_sarg (k := 1) (dk_L_law 1138 _ rfl) (dk_L_law 1139 _ rfl) (dk_L_law 1140 _ rfl) (by decide) (dk_L_law 1141 _ rfl) (dk_L_law 1142 _ rfl) (by omega) (by omega) ?_
  refine J_sarg (k := 2) (dk_L_law 1143 _ rfl) (dk_L_law 1144 _ rfl) (dk_L_law 1145 _ rfl) (by decide) (dk_L_law 1146 _ rfl) (dk_L_law 1147 _ rfl) (by omega) (by omega) ?_
  refine J_sarg (k := 3) (dk_L_law 1148 _ rfl) (dk_L_law 1149 _ rfl) (dk_L_law 1150 _ rfl) (by decide) (dk_L_law 1151 _ rfl) (dk_L_law 1152 _ rfl) (by omega) (by omega) ?_
  refine J_i2l (dk_L_law 1153 _ rfl) ?_
  refine J_bipush (v := 32) (by decide) (dk_L_law 1154 _ rfl) ?_
  refine J_lshl rfl (dk_L_law 1156 _ rfl) ?_
  refine J_sarg (k := 4) (dk_L_law 1157 _ rfl) (dk_L_law 1158 _ rfl) (dk_L_law 1159 _ rfl) (by decide) (dk_L_law 1160 _ rfl) (dk_L_law 1161 _ rfl) (by omega) (by omega) ?_
  refine J_i2l (dk_L_law 1162 _ rfl) ?_
  refine J_ldc2 (v := 4294967295) ctl_8_153 (dk_L_law 1163 _ rfl) ?_
  refine J_land (dk_L_law 1166 _ rfl) ?_
  refine J_lor (dk_L_law 1167 _ rfl) ?_
  refine J_xc (ι := uI) (d' := 3) (As := [.int (xs (i + 1)), .int (xs (i + 2)), .long ((((xs (i + 3)).toInt64 <<< ((32 : Int32).toInt64 &&& 63)) ||| ((xs (i + 4)).toInt64 &&& 4294967295)))]) ok_X6_item vi_X6_item cl_8_155 (n := 3) (by decide +kernel) rfl rfl (Nat.le_of_ble_eq_true rfl) (by decide) (dk_L_law 1168 _ rfl) rfl (c_X6_item mx ((xs (i + 1))) ((xs (i + 2))) ((((xs (i + 3)).toInt64 <<< ((32 : Int32).toInt64 &&& 63)) ||| ((xs (i + 4)).toInt64 &&& 4294967295)))) h1 rfl ?_
  show J _ _ _ _ _ _ _ _ _ [.int r] _ _
  refine J_pop (v := .int r) rfl (dk_L_law 1171 _ rfl) ?_
  refine J_aload_n (i := 2) (a := 2) rfl rfl (dk_L_law 1172 _ rfl) ?_
  refine J_sarg (k := 1) (dk_L_law 1173 _ rfl) (dk_L_law 1174 _ rfl) (dk_L_law 1175 _ rfl) (by decide) (dk_L_law 1176 _ rfl) (dk_L_law 1177 _ rfl) (by omega) (by omega) ?_
  refine J_sarg (k := 2) (dk_L_law 1178 _ rfl) (dk_L_law 1179 _ rfl) (dk_L_law 1180 _ rfl) (by decide) (dk_L_law 1181 _ rfl) (dk_L_law 1182 _ rfl) (by omega) (by omega) ?_
  refine J_sarg (k := 3) (dk_L_law 1183 _ rfl) (dk_L_law 1184 _ rfl) (dk_L_law 1185 _ rfl) (by decide) (dk_L_law 1186 _ rfl) (dk_L_law 1187 _ rfl) (by omega) (by omega) ?_
  refine J_i2l (dk_L_law 1188 _ rfl) ?_
  refine J_bipush (v := 32) (by decide) (dk_L_law 1189 _ rfl) ?_
  refine J_lshl rfl (dk_L_law 1191 _ rfl) ?_
  refine J_sarg (k := 4) (dk_L_law 1192 _ rfl) (dk_L_law 1193 _ rfl) (dk_L_law 1194 _ rfl) (by decide) (dk_L_law 1195 _ rfl) (dk_L_law 1196 _ rfl) (by omega) (by omega) ?_
  refine J_i2l (dk_L_law 1197 _ rfl) ?_
  refine J_ldc2 (v := 4294967295) ctl_8_153 (dk_L_law 1198 _ rfl) ?_
  refine J_land (dk_L_law 1201 _ rfl) ?_
  refine J_lor (dk_L_law 1202 _ rfl) ?_
  refine J_mc (ι := uI) (d' := 4) (As := [.int (xs (i + 1)), .int (xs (i + 2)), .long ((((xs (i + 3)).toInt64 <<< ((32 : Int32).toInt64 &&& 63)) ||| ((xs (i + 4)).toInt64 &&& 4294967295)))]) ok_X7_item vi_X7_item cl_8_159 (n := 3) (by decide +kernel) rfl rfl (Nat.le_of_ble_eq_true rfl) (by decide) (dk_L_law 1203 _ rfl) rfl (c_X7_item mm ((xs (i + 1))) ((xs (i + 2))) ((((xs (i + 3)).toInt64 <<< ((32 : Int32).toInt64 &&& 63)) ||| ((xs (i + 4)).toInt64 &&& 4294967295)))) h2 rfl ?_
  show J _ _ _ _ _ _ _ _ _ [.int r] _ _
  refine J_pop (v := .int r) rfl (dk_L_law 1206 _ rfl) ?_
  refine J_goto (tgt := 1306) (by decide) (dk_L_law 1207 _ rfl) ?_
  exact next _ _ hR
set_option maxHeartbeats 4000000 in
set_option maxRecDepth 1000000 in
theorem law_c34 (hL : L ≤ 3072) (hi : i + 6 ≤ L) (next : ∀ mx mm, RR mx mm → J m_L_law true L xs 24 kc ks 1306 (zI i) [] (HH mx mm) lawQ) {mx mm : mM} (h : RR mx mm) : J m_L_law true L xs 24 kc ks 1210 (zI i) [] (HH mx mm) lawQ := by
  obtain ⟨r, mx1, mm1, h1, h2, hR⟩ := op_read h ((xs (i + 1))) ((xs (i + 2)))
  refine J_aload_n (i := 1) (a := 1) rfl rfl (dk_L_law 1210 _ rfl) ?_
  refine J_sarg (k := 1) (dk_L_law 1211 _ rfl) (dk_L_law 1212 _ rfl) (dk_L_law 1213 _ rfl) (by decide) (dk_L_law 1214 _ rfl) (dk_L_law 1215 _ rfl) (by omega) (by omega) ?_
  refine J_sarg (k := 2) (dk_L_law 1216 _ rfl) (dk_L_law 1217 _ rfl) (dk_L_law 1218 _ rfl) (by decide) (dk_L_law 1219 _ rfl) (dk_L_law 1220 _ rfl) (by omega) (by omega) ?_
  refine J_xc (ι := uL) (d' := 3) (As := [.int (xs (i + 1)), .int (xs (i + 2))]) ok_X6_read vi_X6_read cl_8_160 (n := 2) (by decide +kernel) rfl rfl (Nat.le_of_ble_eq_true rfl) (by decide) (dk_L_law 1221 _ rfl) rfl (c_X6_read mx ((xs (i + 1))) ((xs (i + 2)))) h1 rfl ?_
  show J _ _ _ _ _ _ _ _ _ [.long r] _ _
  refine J_pop2 (v := .long r) rfl (dk_L_law 1224 _ rfl) ?_
  refine J_aload_n (i := 2) (a := 2) rfl rfl (dk_L_law 1225 _ rfl) ?_
  refine J_sarg (k := 1) (dk_L_law 1226 _ rfl) (dk_L_law 1227 _ rfl) (dk_L_law 1228 _ rfl) (by decide) (dk_L_law 1229 _ rfl) (dk_L_law 1230 _ rfl) (by omega) (by omega) ?_
  refine J_sarg (k := 2) (dk_L_law 1231 _ rfl) (dk_L_law 1232 _ rfl) (dk_L_law 1233 _ rfl) (by decide) (dk_L_law 1234 _ rfl) (dk_L_law 1235 _ rfl) (by omega) (by omega) ?_
  refine J_mc (ι := uL) (d' := 4) (As := [.int (xs (i + 1)), .int (xs (i + 2))]) ok_X7_read vi_X7_read cl_8_164 (n := 2) (by decide +kernel) rfl rfl (Nat.le_of_ble_eq_true rfl) (by decide) (dk_L_law 1236 _ rfl) rfl (c_X7_read mm ((xs (i + 1))) ((xs (i + 2)))) h2 rfl ?_
  show J _ _ _ _ _ _ _ _ _ [.long r] _ _
  refine J_pop2 (v := .long r) rfl (dk_L_law 1239 _ rfl) ?_
  refine J_goto (tgt := 1306) (by decide) (dk_L_law 1240 _ rfl) ?_
  exact next _ _ hR
set_option maxHeartbeats 4000000 in
set_option maxRecDepth 1000000 in
theorem law_c35 (hL : L ≤ 3072) (hi : i + 6 ≤ L) (next : ∀ mx mm, RR mx mm → J m_L_law true L xs 24 kc ks 1306 (zI i) [] (HH mx mm) lawQ) {mx mm : mM} (h : RR mx mm) : J m_L_law true L xs 24 kc ks 1243 (zI i) [] (HH mx mm) lawQ := by
  obtain ⟨r, mx1, mm1, h1, h2, hR⟩ := op_shift h ((xs (i + 1))) ((xs (i + 2))) ((xs (i + 3))) ((xs (i + 4))) ((xs (i + 5)))
  refine J_aload_n (i := 1) (a := 1) rfl rfl (dk_L_law 1243 _ rfl) ?_
  refine J_sarg (k := 1) (dk_L_law 1244 _ rfl) (dk_L_law 1245 _ rfl) (dk_L_law 1246 _ rfl) (by decide) (dk_L_law 1247 _ rfl) (dk_L_law 1248 _ rfl) (by omega) (by omega) ?_
  refine J_sarg (k := 2) (dk_L_law 1249 _ rfl) (dk_L_law 1250 _ rfl) (dk_L_law 1251 _ rfl) (by decide) (dk_L_law 1252 _ rfl) (dk_L_law 1253 _ rfl) (by omega) (by omega) ?_
  refine J_sarg (k := 3) (dk_L_law 1254 _ rfl) (dk_L_law 1255 _ rfl) (dk_L_law 1256 _ rfl) (by decide) (dk_L_law 1257 _ rfl) (dk_L_law 1258 _ rfl) (by omega) (by omega) ?_
  refine J_sarg (k := 4) (dk_L_law 1259 _ rfl) (dk_L_law 1260 _ rfl) (dk_L_law 1261 _ rfl) (by decide) (dk_L_law 1262 _ rfl) (dk_L_law 1263 _ rfl) (by omega) (by omega) ?_
  refine J_sarg (k := 5) (dk_L_law 1264 _ rfl) (dk_L_law 1265 _ rfl) (dk_L_law 1266 _ rfl) (by decide) (dk_L_law 1267 _ rfl) (dk_L_law 1268 _ rfl) (by omega) (by omega) ?_
  refine J_xc (ι := uI) (d' := 3) (As := [.int (xs (i + 1)), .int (xs (i + 2)), .int (xs (i + 3)), .int (xs (i + 4)), .int (xs (i + 5))]) ok_X6_shift vi_X6_shift cl_8_165 (n := 5) (by decide +kernel) rfl rfl (Nat.le_of_ble_eq_true rfl) (by decide) (dk_L_law 1269 _ rfl) rfl (c_X6_shift mx ((xs (i + 1))) ((xs (i + 2))) ((xs (i + 3))) ((xs (i + 4))) ((xs (i + 5)))) h1 rfl ?_
  show J _ _ _ _ _ _ _ _ _ [.int r] _ _
  refine J_pop (v := .int r) rfl (dk_L_law 1272 _ rfl) ?_
  refine J_aload_n (i := 2) (a := 2) rfl rfl (dk_L_law 1273 _ rfl) ?_
  refine J_sarg (k := 1) (dk_L_law 1274 _ rfl) (dk_L_law 1275 _ rfl) (dk_L_law 1276 _ rfl) (by decide) (dk_L_law 1277 _ rfl) (dk_L_law 1278 _ rfl) (by omega) (by omega) ?_
  refine J_sarg (k := 2) (dk_L_law 1279 _ rfl) (dk_L_law 1280 _ rfl) (dk_L_law 1281 _ rfl) (by decide) (dk_L_law 1282 _ rfl) (dk_L_law 1283 _ rfl) (by omega) (by omega) ?_
  refine J_sarg (k := 3) (dk_L_law 1284 _ rfl) (dk_L_law 1285 _ rfl) (dk_L_law 1286 _ rfl) (by decide) (dk_L_law 1287 _ rfl) (dk_L_law 1288 _ rfl) (by omega) (by omega) ?_
  refine J_sarg (k := 4) (dk_L_law 1289 _ rfl) (dk_L_law 1290 _ rfl) (dk_L_law 1291 _ rfl) (by decide) (dk_L_law 1292 _ rfl) (dk_L_law 1293 _ rfl) (by omega) (by omega) ?_
  refine J_sarg (k := 5) (dk_L_law 1294 _ rfl) (dk_L_law 1295 _ rfl) (dk_L_law 1296 _ rfl) (by decide) (dk_L_law 1297 _ rfl) (dk_L_law 1298 _ rfl) (by omega) (by omega) ?_
  refine J_mc (ι := uI) (d' := 4) (As := [.int (xs (i + 1)), .int (xs (i + 2)), .int (xs (i + 3)), .int (xs (i + 4)), .int (xs (i + 5))]) ok_X7_shift vi_X7_shift cl_8_169 (n := 5) (by decide +kernel) rfl rfl (Nat.le_of_ble_eq_true rfl) (by decide) (dk_L_law 1299 _ rfl) rfl (c_X7_shift mm ((xs (i + 1))) ((xs (i + 2))) ((xs (i + 3))) ((xs (i + 4))) ((xs (i + 5)))) h2 rfl ?_
  show J _ _ _ _ _ _ _ _ _ [.int r] _ _
  refine J_pop (v := .int r) rfl (dk_L_law 1302 _ rfl) ?_
  refine J_goto (tgt := 1306) (by decide) (dk_L_law 1303 _ rfl) ?_
  exact next _ _ hR
end LAW
