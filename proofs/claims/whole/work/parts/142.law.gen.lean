set_option maxRecDepth 100000 in
set_option maxHeartbeats 4000000 in
theorem law_28 {X : Cxt} (hX : Gd X RL cL_law 7 (some .boolean) 40) (hs : SOK (xG X)) (h3 : at_ (xG X) 157 4 1) {b Lx : Nat} {sx : Nat → Int} (hx : SX X b Lx sx) (x4 p1 p2 p3 p4 : Int) (b1 : inb (x4 + 1) Lx) (b2 : inb (x4 + 2) Lx) (b3 : inb (x4 + 3) Lx) (b4 : inb (x4 + 4) Lx) (e1 : sx (ix (x4 + 1)) = p1) (e2 : sx (ix (x4 + 2)) = p2) (e3 : sx (ix (x4 + 3)) = p3) (e4 : sx (ix (x4 + 4)) = p4) {k n : Nat} (hk : k + 5 ≤ (xR X).cells ∧ n + 30 ≤ (xR X).slots) {Q : State → Prop} (M Mr : Mem) (h : L_28 p1 p2 p3 p4 M = some Mr) (hE : V X (k + 5) (n + 30) Q 3147 [some (.ref b), some (vr (xG X) 0), some (vr (xG X) 139), some (vr (xG X) 157), some (vi x4), none, none] [] Mr) : V X k n Q 1848 [some (.ref b), some (vr (xG X) 0), some (vr (xG X) 139), some (vr (xG X) 157), some (vi x4), none, none] [] M := by
  unfold L_28 at h
  refine x_aloadn hX dL_law_1848 rfl ?_
  refine x_qload hX dL_law_1849 rfl ?_
  refine x_iload hX dL_law_1850 rfl ?_
  refine x_iconst hX dL_law_1852 ?_
  refine x_iadd hX dL_law_1853 ?_
  refine x_sld hX hx dL_law_1854 b1 e1 ?_
  refine x_qload hX dL_law_1855 rfl ?_
  refine x_iload hX dL_law_1856 rfl ?_
  refine x_iconst hX dL_law_1858 ?_
  refine x_iadd hX dL_law_1859 ?_
  refine x_sld hX hx dL_law_1860 b2 e2 ?_
  refine x_aloadn hX dL_law_1861 rfl ?_
  obtain ⟨r_1, M_2, er_1, h⟩ := cl2_of h
  refine x_wS (As := [vr (xG X) 0, vi p1, vi p2, vr (xG X) 157]) (rest := []) hX dL_law_1862 (c_L_setTimes (gk hX) (gl hX) hs h3 p1 p2 M _ _ er_1) kL_setTimes w_1410 rfl rfl rfl (Nat.le_of_ble_eq_true rfl) ⟨Nat.le_trans (Nat.add_le_add_left (Nat.le_of_ble_eq_true rfl : 2 ≤ 5) _) hk.1, Nat.le_trans (Nat.add_le_add_left (Nat.le_of_ble_eq_true rfl : 12 ≤ 30) _) hk.2⟩ ?_
  show V X (k + 2) (n + 12) Q 1865 [some (.ref b), some (vr (xG X) 0), some (vr (xG X) 139), some (vr (xG X) 157), some (vi x4), none, none] [vi r_1] M_2
  refine x_istore (ls' := [some (.ref b), some (vr (xG X) 0), some (vr (xG X) 139), some (vr (xG X) 157), some (vi x4), some (vi r_1), none]) hX dL_law_1865 rfl rfl rfl ?_
  refine x_aloadn hX dL_law_1867 rfl ?_
  refine x_qload hX dL_law_1868 rfl ?_
  refine x_iload hX dL_law_1869 rfl ?_
  refine x_iconst hX dL_law_1871 ?_
  refine x_iadd hX dL_law_1872 ?_
  refine x_sld hX hx dL_law_1873 b1 e1 ?_
  refine x_qload hX dL_law_1874 rfl ?_
  refine x_iload hX dL_law_1875 rfl ?_
  refine x_iconst hX dL_law_1877 ?_
  refine x_iadd hX dL_law_1878 ?_
  refine x_sld hX hx dL_law_1879 b2 e2 ?_
  obtain ⟨r_3, M_4, er_3, h⟩ := cl2_of h
  refine x_callVi (t := 11) (As := [vi p1, vi p2]) (rest := []) hX dL_law_1880 (c_X12_setTimes (gk hX) (gl hX) hs p1 p2 M_2 _ _ er_3) kX12_setTimes vX12_setTimes w_2043 (st139 hs) rfl rfl rfl rfl (Nat.le_of_ble_eq_true rfl) ⟨Nat.le_trans (Nat.add_le_add_left (Nat.le_of_ble_eq_true rfl : 2 ≤ 5) _) hk.1, Nat.le_trans (Nat.add_le_add_left (Nat.le_of_ble_eq_true rfl : 12 ≤ 30) _) hk.2⟩ ?_
  refine x_istore (ls' := [some (.ref b), some (vr (xG X) 0), some (vr (xG X) 139), some (vr (xG X) 157), some (vi x4), some (vi r_1), some (vi r_3)]) hX dL_law_1883 rfl rfl rfl ?_
  refine x_aloadn hX dL_law_1885 rfl ?_
  obtain ⟨r_5, er_5, h⟩ := cl1_of h
  refine x_callVi (t := 11) (As := []) (rest := []) hX dL_law_1886 (c_X12_thrown (gk hX) (gl hX) hs  M_4 _ er_5) kX12_thrown vX12_thrown w_1727 (st139 hs) rfl rfl rfl rfl (Nat.le_of_ble_eq_true rfl) ⟨Nat.le_trans (Nat.add_le_add_left (Nat.le_of_ble_eq_true rfl : 2 ≤ 5) _) hk.1, Nat.le_trans (Nat.add_le_add_left (Nat.le_of_ble_eq_true rfl : 12 ≤ 30) _) hk.2⟩ ?_
  refine x_iload hX dL_law_1889 rfl ?_
  refine x_icmp_eq (tgt := 1896) hX dL_law_1891 (by decide) rfl rfl (fun hc => ?_) (fun hc => ?_)
  · replace h := (if_pos hc).symm.trans h
    refine x_iload hX dL_law_1896 rfl ?_
    refine x_if_ne (tgt := 1913) hX dL_law_1898 (by decide) rfl (fun hc => ?_) (fun hc => ?_)
    · replace h := (if_pos hc).symm.trans h
      refine x_aloadn hX dL_law_1901 rfl ?_
      refine x_iconst hX dL_law_1902 ?_
      refine x_lald hX dL_law_1903 h3 inc_0_1 ixc_0 ?_
      refine x_iload hX dL_law_1904 rfl ?_
      refine x_i2l hX dL_law_1906 ?_
      refine x_lcmp hX dL_law_1907 ?_
      refine x_if_eq (tgt := 1913) hX dL_law_1908 (by decide) rfl (fun hc => ?_) (fun hc => ?_)
      · replace h := (if_pos hc).symm.trans h
        refine x_goto (tgt := 3147) hX dL_law_1913 (by decide) ?_
        cases h
        exact x_wid (k2 := k + 5) (n2 := n + 30) (Nat.add_le_add_left (Nat.le_of_ble_eq_true rfl : 2 ≤ 5) _) (Nat.add_le_add_left (Nat.le_of_ble_eq_true rfl : 12 ≤ 30) _) (x_weak [true, true, true, true, true, false, false] rfl hE)
      · replace h := (if_neg hc).symm.trans h
        refine x_iconst hX dL_law_1911 ?_
        cases h
    · replace h := (if_neg hc).symm.trans h
      refine x_goto (tgt := 3147) hX dL_law_1913 (by decide) ?_
      cases h
      exact x_wid (k2 := k + 5) (n2 := n + 30) (Nat.add_le_add_left (Nat.le_of_ble_eq_true rfl : 2 ≤ 5) _) (Nat.add_le_add_left (Nat.le_of_ble_eq_true rfl : 12 ≤ 30) _) (x_weak [true, true, true, true, true, false, false] rfl hE)
  · replace h := (if_neg hc).symm.trans h
    refine x_iconst hX dL_law_1894 ?_
    cases h

set_option maxRecDepth 100000 in
set_option maxHeartbeats 4000000 in
theorem law_29 {X : Cxt} (hX : Gd X RL cL_law 7 (some .boolean) 40) (hs : SOK (xG X)) (h3 : at_ (xG X) 157 4 1) {b Lx : Nat} {sx : Nat → Int} (hx : SX X b Lx sx) (x4 p1 p2 p3 p4 : Int) (b1 : inb (x4 + 1) Lx) (b2 : inb (x4 + 2) Lx) (b3 : inb (x4 + 3) Lx) (b4 : inb (x4 + 4) Lx) (e1 : sx (ix (x4 + 1)) = p1) (e2 : sx (ix (x4 + 2)) = p2) (e3 : sx (ix (x4 + 3)) = p3) (e4 : sx (ix (x4 + 4)) = p4) {k n : Nat} (hk : k + 5 ≤ (xR X).cells ∧ n + 30 ≤ (xR X).slots) {Q : State → Prop} (M Mr : Mem) (h : L_29 p1 p2 p3 p4 M = some Mr) (hE : V X (k + 5) (n + 30) Q 3147 [some (.ref b), some (vr (xG X) 0), some (vr (xG X) 139), some (vr (xG X) 157), some (vi x4), none, none] [] Mr) : V X k n Q 1916 [some (.ref b), some (vr (xG X) 0), some (vr (xG X) 139), some (vr (xG X) 157), some (vi x4), none, none] [] M := by
  unfold L_29 at h
  refine x_aloadn hX dL_law_1916 rfl ?_
  refine x_qload hX dL_law_1917 rfl ?_
  refine x_iload hX dL_law_1918 rfl ?_
  refine x_iconst hX dL_law_1920 ?_
  refine x_iadd hX dL_law_1921 ?_
  refine x_sld hX hx dL_law_1922 b1 e1 ?_
  refine x_qload hX dL_law_1923 rfl ?_
  refine x_iload hX dL_law_1924 rfl ?_
  refine x_iconst hX dL_law_1926 ?_
  refine x_iadd hX dL_law_1927 ?_
  refine x_sld hX hx dL_law_1928 b2 e2 ?_
  refine x_qload hX dL_law_1929 rfl ?_
  refine x_iload hX dL_law_1930 rfl ?_
  refine x_iconst hX dL_law_1932 ?_
  refine x_iadd hX dL_law_1933 ?_
  refine x_sld hX hx dL_law_1934 b3 e3 ?_
  refine x_aloadn hX dL_law_1935 rfl ?_
  obtain ⟨r_1, M_2, er_1, h⟩ := cl2_of h
  refine x_wS (As := [vr (xG X) 0, vi p1, vi p2, vi p3, vr (xG X) 157]) (rest := []) hX dL_law_1936 (c_L_routeLength (gk hX) (gl hX) hs h3 p1 p2 p3 M _ _ er_1) kL_routeLength w_1417 rfl rfl rfl (Nat.le_of_ble_eq_true rfl) ⟨Nat.le_trans (Nat.add_le_add_left (Nat.le_of_ble_eq_true rfl : 3 ≤ 5) _) hk.1, Nat.le_trans (Nat.add_le_add_left (Nat.le_of_ble_eq_true rfl : 18 ≤ 30) _) hk.2⟩ ?_
  show V X (k + 3) (n + 18) Q 1939 [some (.ref b), some (vr (xG X) 0), some (vr (xG X) 139), some (vr (xG X) 157), some (vi x4), none, none] [vi r_1] M_2
  refine x_istore (ls' := [some (.ref b), some (vr (xG X) 0), some (vr (xG X) 139), some (vr (xG X) 157), some (vi x4), some (vi r_1), none]) hX dL_law_1939 rfl rfl rfl ?_
  refine x_aloadn hX dL_law_1941 rfl ?_
  refine x_qload hX dL_law_1942 rfl ?_
  refine x_iload hX dL_law_1943 rfl ?_
  refine x_iconst hX dL_law_1945 ?_
  refine x_iadd hX dL_law_1946 ?_
  refine x_sld hX hx dL_law_1947 b1 e1 ?_
  refine x_qload hX dL_law_1948 rfl ?_
  refine x_iload hX dL_law_1949 rfl ?_
  refine x_iconst hX dL_law_1951 ?_
  refine x_iadd hX dL_law_1952 ?_
  refine x_sld hX hx dL_law_1953 b2 e2 ?_
  refine x_qload hX dL_law_1954 rfl ?_
  refine x_iload hX dL_law_1955 rfl ?_
  refine x_iconst hX dL_law_1957 ?_
  refine x_iadd hX dL_law_1958 ?_
  refine x_sld hX hx dL_law_1959 b3 e3 ?_
  obtain ⟨r_3, M_4, er_3, h⟩ := cl2_of h
  refine x_callVi (t := 11) (As := [vi p1, vi p2, vi p3]) (rest := []) hX dL_law_1960 (c_X12_routeLength (gk hX) (gl hX) hs p1 p2 p3 M_2 _ _ er_3) kX12_routeLength vX12_routeLength w_2047 (st139 hs) rfl rfl rfl rfl (Nat.le_of_ble_eq_true rfl) ⟨Nat.le_trans (Nat.add_le_add_left (Nat.le_of_ble_eq_true rfl : 3 ≤ 5) _) hk.1, Nat.le_trans (Nat.add_le_add_left (Nat.le_of_ble_eq_true rfl : 18 ≤ 30) _) hk.2⟩ ?_
  refine x_istore (ls' := [some (.ref b), some (vr (xG X) 0), some (vr (xG X) 139), some (vr (xG X) 157), some (vi x4), some (vi r_1), some (vi r_3)]) hX dL_law_1963 rfl rfl rfl ?_
  refine x_aloadn hX dL_law_1965 rfl ?_
  obtain ⟨r_5, er_5, h⟩ := cl1_of h
  refine x_callVi (t := 11) (As := []) (rest := []) hX dL_law_1966 (c_X12_thrown (gk hX) (gl hX) hs  M_4 _ er_5) kX12_thrown vX12_thrown w_1727 (st139 hs) rfl rfl rfl rfl (Nat.le_of_ble_eq_true rfl) ⟨Nat.le_trans (Nat.add_le_add_left (Nat.le_of_ble_eq_true rfl : 3 ≤ 5) _) hk.1, Nat.le_trans (Nat.add_le_add_left (Nat.le_of_ble_eq_true rfl : 18 ≤ 30) _) hk.2⟩ ?_
  refine x_iload hX dL_law_1969 rfl ?_
  refine x_icmp_eq (tgt := 1976) hX dL_law_1971 (by decide) rfl rfl (fun hc => ?_) (fun hc => ?_)
  · replace h := (if_pos hc).symm.trans h
    refine x_iload hX dL_law_1976 rfl ?_
    refine x_if_ne (tgt := 1993) hX dL_law_1978 (by decide) rfl (fun hc => ?_) (fun hc => ?_)
    · replace h := (if_pos hc).symm.trans h
      refine x_aloadn hX dL_law_1981 rfl ?_
      refine x_iconst hX dL_law_1982 ?_
      refine x_lald hX dL_law_1983 h3 inc_0_1 ixc_0 ?_
      refine x_iload hX dL_law_1984 rfl ?_
      refine x_i2l hX dL_law_1986 ?_
      refine x_lcmp hX dL_law_1987 ?_
      refine x_if_eq (tgt := 1993) hX dL_law_1988 (by decide) rfl (fun hc => ?_) (fun hc => ?_)
      · replace h := (if_pos hc).symm.trans h
        refine x_goto (tgt := 3147) hX dL_law_1993 (by decide) ?_
        cases h
        exact x_wid (k2 := k + 5) (n2 := n + 30) (Nat.add_le_add_left (Nat.le_of_ble_eq_true rfl : 3 ≤ 5) _) (Nat.add_le_add_left (Nat.le_of_ble_eq_true rfl : 18 ≤ 30) _) (x_weak [true, true, true, true, true, false, false] rfl hE)
      · replace h := (if_neg hc).symm.trans h
        refine x_iconst hX dL_law_1991 ?_
        cases h
    · replace h := (if_neg hc).symm.trans h
      refine x_goto (tgt := 3147) hX dL_law_1993 (by decide) ?_
      cases h
      exact x_wid (k2 := k + 5) (n2 := n + 30) (Nat.add_le_add_left (Nat.le_of_ble_eq_true rfl : 3 ≤ 5) _) (Nat.add_le_add_left (Nat.le_of_ble_eq_true rfl : 18 ≤ 30) _) (x_weak [true, true, true, true, true, false, false] rfl hE)
  · replace h := (if_neg hc).symm.trans h
    refine x_iconst hX dL_law_1974 ?_
    cases h

set_option maxRecDepth 100000 in
set_option maxHeartbeats 4000000 in
theorem law_30 {X : Cxt} (hX : Gd X RL cL_law 7 (some .boolean) 40) (hs : SOK (xG X)) (h3 : at_ (xG X) 157 4 1) {b Lx : Nat} {sx : Nat → Int} (hx : SX X b Lx sx) (x4 p1 p2 p3 p4 : Int) (b1 : inb (x4 + 1) Lx) (b2 : inb (x4 + 2) Lx) (b3 : inb (x4 + 3) Lx) (b4 : inb (x4 + 4) Lx) (e1 : sx (ix (x4 + 1)) = p1) (e2 : sx (ix (x4 + 2)) = p2) (e3 : sx (ix (x4 + 3)) = p3) (e4 : sx (ix (x4 + 4)) = p4) {k n : Nat} (hk : k + 5 ≤ (xR X).cells ∧ n + 30 ≤ (xR X).slots) {Q : State → Prop} (M Mr : Mem) (h : L_30 p1 p2 p3 p4 M = some Mr) (hE : V X (k + 5) (n + 30) Q 3147 [some (.ref b), some (vr (xG X) 0), some (vr (xG X) 139), some (vr (xG X) 157), some (vi x4), none, none] [] Mr) : V X k n Q 1996 [some (.ref b), some (vr (xG X) 0), some (vr (xG X) 139), some (vr (xG X) 157), some (vi x4), none, none] [] M := by
  unfold L_30 at h
  refine x_aloadn hX dL_law_1996 rfl ?_
  refine x_qload hX dL_law_1997 rfl ?_
  refine x_iload hX dL_law_1998 rfl ?_
  refine x_iconst hX dL_law_2000 ?_
  refine x_iadd hX dL_law_2001 ?_
  refine x_sld hX hx dL_law_2002 b1 e1 ?_
  refine x_aloadn hX dL_law_2003 rfl ?_
  obtain ⟨r_1, M_2, er_1, h⟩ := cl2_of h
  refine x_wS (As := [vr (xG X) 0, vi p1, vr (xG X) 157]) (rest := []) hX dL_law_2004 (c_L_batchRoute (gk hX) (gl hX) hs h3 p1 M _ _ er_1) kL_batchRoute w_1430 rfl rfl rfl (Nat.le_of_ble_eq_true rfl) ⟨Nat.le_trans (Nat.add_le_add_left (Nat.le_of_ble_eq_true rfl : 1 ≤ 5) _) hk.1, Nat.le_trans (Nat.add_le_add_left (Nat.le_of_ble_eq_true rfl : 6 ≤ 30) _) hk.2⟩ ?_
  show V X (k + 1) (n + 6) Q 2007 [some (.ref b), some (vr (xG X) 0), some (vr (xG X) 139), some (vr (xG X) 157), some (vi x4), none, none] [vi r_1] M_2
  refine x_istore (ls' := [some (.ref b), some (vr (xG X) 0), some (vr (xG X) 139), some (vr (xG X) 157), some (vi x4), some (vi r_1), none]) hX dL_law_2007 rfl rfl rfl ?_
  refine x_aloadn hX dL_law_2009 rfl ?_
  refine x_qload hX dL_law_2010 rfl ?_
  refine x_iload hX dL_law_2011 rfl ?_
  refine x_iconst hX dL_law_2013 ?_
  refine x_iadd hX dL_law_2014 ?_
  refine x_sld hX hx dL_law_2015 b1 e1 ?_
  obtain ⟨r_3, M_4, er_3, h⟩ := cl2_of h
  refine x_callVi (t := 11) (As := [vi p1]) (rest := []) hX dL_law_2016 (c_X12_batchRoute (gk hX) (gl hX) hs p1 M_2 _ _ er_3) kX12_batchRoute vX12_batchRoute w_2059 (st139 hs) rfl rfl rfl rfl (Nat.le_of_ble_eq_true rfl) ⟨Nat.le_trans (Nat.add_le_add_left (Nat.le_of_ble_eq_true rfl : 1 ≤ 5) _) hk.1, Nat.le_trans (Nat.add_le_add_left (Nat.le_of_ble_eq_true rfl : 6 ≤ 30) _) hk.2⟩ ?_
  refine x_istore (ls' := [some (.ref b), some (vr (xG X) 0), some (vr (xG X) 139), some (vr (xG X) 157), some (vi x4), some (vi r_1), some (vi r_3)]) hX dL_law_2019 rfl rfl rfl ?_
  refine x_aloadn hX dL_law_2021 rfl ?_
  obtain ⟨r_5, er_5, h⟩ := cl1_of h
  refine x_callVi (t := 11) (As := []) (rest := []) hX dL_law_2022 (c_X12_thrown (gk hX) (gl hX) hs  M_4 _ er_5) kX12_thrown vX12_thrown w_1727 (st139 hs) rfl rfl rfl rfl (Nat.le_of_ble_eq_true rfl) ⟨Nat.le_trans (Nat.add_le_add_left (Nat.le_of_ble_eq_true rfl : 1 ≤ 5) _) hk.1, Nat.le_trans (Nat.add_le_add_left (Nat.le_of_ble_eq_true rfl : 6 ≤ 30) _) hk.2⟩ ?_
  refine x_iload hX dL_law_2025 rfl ?_
  refine x_icmp_eq (tgt := 2032) hX dL_law_2027 (by decide) rfl rfl (fun hc => ?_) (fun hc => ?_)
  · replace h := (if_pos hc).symm.trans h
    refine x_iload hX dL_law_2032 rfl ?_
    refine x_if_ne (tgt := 2049) hX dL_law_2034 (by decide) rfl (fun hc => ?_) (fun hc => ?_)
    · replace h := (if_pos hc).symm.trans h
      refine x_aloadn hX dL_law_2037 rfl ?_
      refine x_iconst hX dL_law_2038 ?_
      refine x_lald hX dL_law_2039 h3 inc_0_1 ixc_0 ?_
      refine x_iload hX dL_law_2040 rfl ?_
      refine x_i2l hX dL_law_2042 ?_
      refine x_lcmp hX dL_law_2043 ?_
      refine x_if_eq (tgt := 2049) hX dL_law_2044 (by decide) rfl (fun hc => ?_) (fun hc => ?_)
      · replace h := (if_pos hc).symm.trans h
        refine x_goto (tgt := 3147) hX dL_law_2049 (by decide) ?_
        cases h
        exact x_wid (k2 := k + 5) (n2 := n + 30) (Nat.add_le_add_left (Nat.le_of_ble_eq_true rfl : 1 ≤ 5) _) (Nat.add_le_add_left (Nat.le_of_ble_eq_true rfl : 6 ≤ 30) _) (x_weak [true, true, true, true, true, false, false] rfl hE)
      · replace h := (if_neg hc).symm.trans h
        refine x_iconst hX dL_law_2047 ?_
        cases h
    · replace h := (if_neg hc).symm.trans h
      refine x_goto (tgt := 3147) hX dL_law_2049 (by decide) ?_
      cases h
      exact x_wid (k2 := k + 5) (n2 := n + 30) (Nat.add_le_add_left (Nat.le_of_ble_eq_true rfl : 1 ≤ 5) _) (Nat.add_le_add_left (Nat.le_of_ble_eq_true rfl : 6 ≤ 30) _) (x_weak [true, true, true, true, true, false, false] rfl hE)
  · replace h := (if_neg hc).symm.trans h
    refine x_iconst hX dL_law_2030 ?_
    cases h

set_option maxRecDepth 100000 in
set_option maxHeartbeats 4000000 in
theorem law_31 {X : Cxt} (hX : Gd X RL cL_law 7 (some .boolean) 40) (hs : SOK (xG X)) (h3 : at_ (xG X) 157 4 1) {b Lx : Nat} {sx : Nat → Int} (hx : SX X b Lx sx) (x4 p1 p2 p3 p4 : Int) (b1 : inb (x4 + 1) Lx) (b2 : inb (x4 + 2) Lx) (b3 : inb (x4 + 3) Lx) (b4 : inb (x4 + 4) Lx) (e1 : sx (ix (x4 + 1)) = p1) (e2 : sx (ix (x4 + 2)) = p2) (e3 : sx (ix (x4 + 3)) = p3) (e4 : sx (ix (x4 + 4)) = p4) {k n : Nat} (hk : k + 5 ≤ (xR X).cells ∧ n + 30 ≤ (xR X).slots) {Q : State → Prop} (M Mr : Mem) (h : L_31 p1 p2 p3 p4 M = some Mr) (hE : V X (k + 5) (n + 30) Q 3147 [some (.ref b), some (vr (xG X) 0), some (vr (xG X) 139), some (vr (xG X) 157), some (vi x4), none, none] [] Mr) : V X k n Q 2052 [some (.ref b), some (vr (xG X) 0), some (vr (xG X) 139), some (vr (xG X) 157), some (vi x4), none, none] [] M := by
  unfold L_31 at h
  refine x_aloadn hX dL_law_2052 rfl ?_
  refine x_qload hX dL_law_2053 rfl ?_
  refine x_iload hX dL_law_2054 rfl ?_
  refine x_iconst hX dL_law_2056 ?_
  refine x_iadd hX dL_law_2057 ?_
  refine x_sld hX hx dL_law_2058 b1 e1 ?_
  refine x_aloadn hX dL_law_2059 rfl ?_
  obtain ⟨r_1, M_2, er_1, h⟩ := cl2_of h
  refine x_wS (As := [vr (xG X) 0, vi p1, vr (xG X) 157]) (rest := []) hX dL_law_2060 (c_L_bestPolicy (gk hX) (gl hX) hs h3 p1 M _ _ er_1) kL_bestPolicy w_1437 rfl rfl rfl (Nat.le_of_ble_eq_true rfl) ⟨Nat.le_trans (Nat.add_le_add_left (Nat.le_of_ble_eq_true rfl : 1 ≤ 5) _) hk.1, Nat.le_trans (Nat.add_le_add_left (Nat.le_of_ble_eq_true rfl : 6 ≤ 30) _) hk.2⟩ ?_
  show V X (k + 1) (n + 6) Q 2063 [some (.ref b), some (vr (xG X) 0), some (vr (xG X) 139), some (vr (xG X) 157), some (vi x4), none, none] [vi r_1] M_2
  refine x_istore (ls' := [some (.ref b), some (vr (xG X) 0), some (vr (xG X) 139), some (vr (xG X) 157), some (vi x4), some (vi r_1), none]) hX dL_law_2063 rfl rfl rfl ?_
  refine x_aloadn hX dL_law_2065 rfl ?_
  refine x_qload hX dL_law_2066 rfl ?_
  refine x_iload hX dL_law_2067 rfl ?_
  refine x_iconst hX dL_law_2069 ?_
  refine x_iadd hX dL_law_2070 ?_
  refine x_sld hX hx dL_law_2071 b1 e1 ?_
  obtain ⟨r_3, M_4, er_3, h⟩ := cl2_of h
  refine x_callVi (t := 11) (As := [vi p1]) (rest := []) hX dL_law_2072 (c_X12_bestPolicy (gk hX) (gl hX) hs p1 M_2 _ _ er_3) kX12_bestPolicy vX12_bestPolicy w_2063 (st139 hs) rfl rfl rfl rfl (Nat.le_of_ble_eq_true rfl) ⟨Nat.le_trans (Nat.add_le_add_left (Nat.le_of_ble_eq_true rfl : 1 ≤ 5) _) hk.1, Nat.le_trans (Nat.add_le_add_left (Nat.le_of_ble_eq_true rfl : 6 ≤ 30) _) hk.2⟩ ?_
  refine x_istore (ls' := [some (.ref b), some (vr (xG X) 0), some (vr (xG X) 139), some (vr (xG X) 157), some (vi x4), some (vi r_1), some (vi r_3)]) hX dL_law_2075 rfl rfl rfl ?_
  refine x_aloadn hX dL_law_2077 rfl ?_
  obtain ⟨r_5, er_5, h⟩ := cl1_of h
  refine x_callVi (t := 11) (As := []) (rest := []) hX dL_law_2078 (c_X12_thrown (gk hX) (gl hX) hs  M_4 _ er_5) kX12_thrown vX12_thrown w_1727 (st139 hs) rfl rfl rfl rfl (Nat.le_of_ble_eq_true rfl) ⟨Nat.le_trans (Nat.add_le_add_left (Nat.le_of_ble_eq_true rfl : 1 ≤ 5) _) hk.1, Nat.le_trans (Nat.add_le_add_left (Nat.le_of_ble_eq_true rfl : 6 ≤ 30) _) hk.2⟩ ?_
  refine x_iload hX dL_law_2081 rfl ?_
  refine x_icmp_eq (tgt := 2088) hX dL_law_2083 (by decide) rfl rfl (fun hc => ?_) (fun hc => ?_)
  · replace h := (if_pos hc).symm.trans h
    refine x_iload hX dL_law_2088 rfl ?_
    refine x_if_ne (tgt := 2105) hX dL_law_2090 (by decide) rfl (fun hc => ?_) (fun hc => ?_)
    · replace h := (if_pos hc).symm.trans h
      refine x_aloadn hX dL_law_2093 rfl ?_
      refine x_iconst hX dL_law_2094 ?_
      refine x_lald hX dL_law_2095 h3 inc_0_1 ixc_0 ?_
      refine x_iload hX dL_law_2096 rfl ?_
      refine x_i2l hX dL_law_2098 ?_
      refine x_lcmp hX dL_law_2099 ?_
      refine x_if_eq (tgt := 2105) hX dL_law_2100 (by decide) rfl (fun hc => ?_) (fun hc => ?_)
      · replace h := (if_pos hc).symm.trans h
        refine x_goto (tgt := 3147) hX dL_law_2105 (by decide) ?_
        cases h
        exact x_wid (k2 := k + 5) (n2 := n + 30) (Nat.add_le_add_left (Nat.le_of_ble_eq_true rfl : 1 ≤ 5) _) (Nat.add_le_add_left (Nat.le_of_ble_eq_true rfl : 6 ≤ 30) _) (x_weak [true, true, true, true, true, false, false] rfl hE)
      · replace h := (if_neg hc).symm.trans h
        refine x_iconst hX dL_law_2103 ?_
        cases h
    · replace h := (if_neg hc).symm.trans h
      refine x_goto (tgt := 3147) hX dL_law_2105 (by decide) ?_
      cases h
      exact x_wid (k2 := k + 5) (n2 := n + 30) (Nat.add_le_add_left (Nat.le_of_ble_eq_true rfl : 1 ≤ 5) _) (Nat.add_le_add_left (Nat.le_of_ble_eq_true rfl : 6 ≤ 30) _) (x_weak [true, true, true, true, true, false, false] rfl hE)
  · replace h := (if_neg hc).symm.trans h
    refine x_iconst hX dL_law_2086 ?_
    cases h

set_option maxRecDepth 100000 in
set_option maxHeartbeats 4000000 in
theorem law_32 {X : Cxt} (hX : Gd X RL cL_law 7 (some .boolean) 40) (hs : SOK (xG X)) (h3 : at_ (xG X) 157 4 1) {b Lx : Nat} {sx : Nat → Int} (hx : SX X b Lx sx) (x4 p1 p2 p3 p4 : Int) (b1 : inb (x4 + 1) Lx) (b2 : inb (x4 + 2) Lx) (b3 : inb (x4 + 3) Lx) (b4 : inb (x4 + 4) Lx) (e1 : sx (ix (x4 + 1)) = p1) (e2 : sx (ix (x4 + 2)) = p2) (e3 : sx (ix (x4 + 3)) = p3) (e4 : sx (ix (x4 + 4)) = p4) {k n : Nat} (hk : k + 5 ≤ (xR X).cells ∧ n + 30 ≤ (xR X).slots) {Q : State → Prop} (M Mr : Mem) (h : L_32 p1 p2 p3 p4 M = some Mr) (hE : V X (k + 5) (n + 30) Q 3147 [some (.ref b), some (vr (xG X) 0), some (vr (xG X) 139), some (vr (xG X) 157), some (vi x4), none, none] [] Mr) : V X k n Q 2108 [some (.ref b), some (vr (xG X) 0), some (vr (xG X) 139), some (vr (xG X) 157), some (vi x4), none, none] [] M := by
  unfold L_32 at h
  refine x_aloadn hX dL_law_2108 rfl ?_
  refine x_qload hX dL_law_2109 rfl ?_
  refine x_iload hX dL_law_2110 rfl ?_
  refine x_iconst hX dL_law_2112 ?_
  refine x_iadd hX dL_law_2113 ?_
  refine x_sld hX hx dL_law_2114 b1 e1 ?_
  refine x_qload hX dL_law_2115 rfl ?_
  refine x_iload hX dL_law_2116 rfl ?_
  refine x_iconst hX dL_law_2118 ?_
  refine x_iadd hX dL_law_2119 ?_
  refine x_sld hX hx dL_law_2120 b2 e2 ?_
  refine x_aloadn hX dL_law_2121 rfl ?_
  obtain ⟨r_1, M_2, er_1, h⟩ := cl2_of h
  refine x_wS (As := [vr (xG X) 0, vi p1, vi p2, vr (xG X) 157]) (rest := []) hX dL_law_2122 (c_L_stopCount (gk hX) (gl hX) hs h3 p1 p2 M _ _ er_1) kL_stopCount w_1444 rfl rfl rfl (Nat.le_of_ble_eq_true rfl) ⟨Nat.le_trans (Nat.add_le_add_left (Nat.le_of_ble_eq_true rfl : 2 ≤ 5) _) hk.1, Nat.le_trans (Nat.add_le_add_left (Nat.le_of_ble_eq_true rfl : 12 ≤ 30) _) hk.2⟩ ?_
  show V X (k + 2) (n + 12) Q 2125 [some (.ref b), some (vr (xG X) 0), some (vr (xG X) 139), some (vr (xG X) 157), some (vi x4), none, none] [vi r_1] M_2
  refine x_istore (ls' := [some (.ref b), some (vr (xG X) 0), some (vr (xG X) 139), some (vr (xG X) 157), some (vi x4), some (vi r_1), none]) hX dL_law_2125 rfl rfl rfl ?_
  refine x_aloadn hX dL_law_2127 rfl ?_
  refine x_qload hX dL_law_2128 rfl ?_
  refine x_iload hX dL_law_2129 rfl ?_
  refine x_iconst hX dL_law_2131 ?_
  refine x_iadd hX dL_law_2132 ?_
  refine x_sld hX hx dL_law_2133 b1 e1 ?_
  refine x_qload hX dL_law_2134 rfl ?_
  refine x_iload hX dL_law_2135 rfl ?_
  refine x_iconst hX dL_law_2137 ?_
  refine x_iadd hX dL_law_2138 ?_
  refine x_sld hX hx dL_law_2139 b2 e2 ?_
  obtain ⟨r_3, M_4, er_3, h⟩ := cl2_of h
  refine x_callVi (t := 11) (As := [vi p1, vi p2]) (rest := []) hX dL_law_2140 (c_X12_stopCount (gk hX) (gl hX) hs p1 p2 M_2 _ _ er_3) kX12_stopCount vX12_stopCount w_2067 (st139 hs) rfl rfl rfl rfl (Nat.le_of_ble_eq_true rfl) ⟨Nat.le_trans (Nat.add_le_add_left (Nat.le_of_ble_eq_true rfl : 2 ≤ 5) _) hk.1, Nat.le_trans (Nat.add_le_add_left (Nat.le_of_ble_eq_true rfl : 12 ≤ 30) _) hk.2⟩ ?_
  refine x_istore (ls' := [some (.ref b), some (vr (xG X) 0), some (vr (xG X) 139), some (vr (xG X) 157), some (vi x4), some (vi r_1), some (vi r_3)]) hX dL_law_2143 rfl rfl rfl ?_
  refine x_aloadn hX dL_law_2145 rfl ?_
  obtain ⟨r_5, er_5, h⟩ := cl1_of h
  refine x_callVi (t := 11) (As := []) (rest := []) hX dL_law_2146 (c_X12_thrown (gk hX) (gl hX) hs  M_4 _ er_5) kX12_thrown vX12_thrown w_1727 (st139 hs) rfl rfl rfl rfl (Nat.le_of_ble_eq_true rfl) ⟨Nat.le_trans (Nat.add_le_add_left (Nat.le_of_ble_eq_true rfl : 2 ≤ 5) _) hk.1, Nat.le_trans (Nat.add_le_add_left (Nat.le_of_ble_eq_true rfl : 12 ≤ 30) _) hk.2⟩ ?_
  refine x_iload hX dL_law_2149 rfl ?_
  refine x_icmp_eq (tgt := 2156) hX dL_law_2151 (by decide) rfl rfl (fun hc => ?_) (fun hc => ?_)
  · replace h := (if_pos hc).symm.trans h
    refine x_iload hX dL_law_2156 rfl ?_
    refine x_if_ne (tgt := 2173) hX dL_law_2158 (by decide) rfl (fun hc => ?_) (fun hc => ?_)
    · replace h := (if_pos hc).symm.trans h
      refine x_aloadn hX dL_law_2161 rfl ?_
      refine x_iconst hX dL_law_2162 ?_
      refine x_lald hX dL_law_2163 h3 inc_0_1 ixc_0 ?_
      refine x_iload hX dL_law_2164 rfl ?_
      refine x_i2l hX dL_law_2166 ?_
      refine x_lcmp hX dL_law_2167 ?_
      refine x_if_eq (tgt := 2173) hX dL_law_2168 (by decide) rfl (fun hc => ?_) (fun hc => ?_)
      · replace h := (if_pos hc).symm.trans h
        refine x_goto (tgt := 3147) hX dL_law_2173 (by decide) ?_
        cases h
        exact x_wid (k2 := k + 5) (n2 := n + 30) (Nat.add_le_add_left (Nat.le_of_ble_eq_true rfl : 2 ≤ 5) _) (Nat.add_le_add_left (Nat.le_of_ble_eq_true rfl : 12 ≤ 30) _) (x_weak [true, true, true, true, true, false, false] rfl hE)
      · replace h := (if_neg hc).symm.trans h
        refine x_iconst hX dL_law_2171 ?_
        cases h
    · replace h := (if_neg hc).symm.trans h
      refine x_goto (tgt := 3147) hX dL_law_2173 (by decide) ?_
      cases h
      exact x_wid (k2 := k + 5) (n2 := n + 30) (Nat.add_le_add_left (Nat.le_of_ble_eq_true rfl : 2 ≤ 5) _) (Nat.add_le_add_left (Nat.le_of_ble_eq_true rfl : 12 ≤ 30) _) (x_weak [true, true, true, true, true, false, false] rfl hE)
  · replace h := (if_neg hc).symm.trans h
    refine x_iconst hX dL_law_2154 ?_
    cases h

set_option maxRecDepth 100000 in
set_option maxHeartbeats 4000000 in
theorem law_33 {X : Cxt} (hX : Gd X RL cL_law 7 (some .boolean) 40) (hs : SOK (xG X)) (h3 : at_ (xG X) 157 4 1) {b Lx : Nat} {sx : Nat → Int} (hx : SX X b Lx sx) (x4 p1 p2 p3 p4 : Int) (b1 : inb (x4 + 1) Lx) (b2 : inb (x4 + 2) Lx) (b3 : inb (x4 + 3) Lx) (b4 : inb (x4 + 4) Lx) (e1 : sx (ix (x4 + 1)) = p1) (e2 : sx (ix (x4 + 2)) = p2) (e3 : sx (ix (x4 + 3)) = p3) (e4 : sx (ix (x4 + 4)) = p4) {k n : Nat} (hk : k + 5 ≤ (xR X).cells ∧ n + 30 ≤ (xR X).slots) {Q : State → Prop} (M Mr : Mem) (h : L_33 p1 p2 p3 p4 M = some Mr) (hE : V X (k + 5) (n + 30) Q 3147 [some (.ref b), some (vr (xG X) 0), some (vr (xG X) 139), some (vr (xG X) 157), some (vi x4), none, none] [] Mr) : V X k n Q 2176 [some (.ref b), some (vr (xG X) 0), some (vr (xG X) 139), some (vr (xG X) 157), some (vi x4), none, none] [] M := by
  unfold L_33 at h
  refine x_aloadn hX dL_law_2176 rfl ?_
  refine x_qload hX dL_law_2177 rfl ?_
  refine x_iload hX dL_law_2178 rfl ?_
  refine x_iconst hX dL_law_2180 ?_
  refine x_iadd hX dL_law_2181 ?_
  refine x_sld hX hx dL_law_2182 b1 e1 ?_
  refine x_qload hX dL_law_2183 rfl ?_
  refine x_iload hX dL_law_2184 rfl ?_
  refine x_iconst hX dL_law_2186 ?_
  refine x_iadd hX dL_law_2187 ?_
  refine x_sld hX hx dL_law_2188 b2 e2 ?_
  refine x_qload hX dL_law_2189 rfl ?_
  refine x_iload hX dL_law_2190 rfl ?_
  refine x_iconst hX dL_law_2192 ?_
  refine x_iadd hX dL_law_2193 ?_
  refine x_sld hX hx dL_law_2194 b3 e3 ?_
  refine x_aloadn hX dL_law_2195 rfl ?_
  obtain ⟨r_1, M_2, er_1, h⟩ := cl2_of h
  refine x_wS (As := [vr (xG X) 0, vi p1, vi p2, vi p3, vr (xG X) 157]) (rest := []) hX dL_law_2196 (c_L_stopItem (gk hX) (gl hX) hs h3 p1 p2 p3 M _ _ er_1) kL_stopItem w_1452 rfl rfl rfl (Nat.le_of_ble_eq_true rfl) ⟨Nat.le_trans (Nat.add_le_add_left (Nat.le_of_ble_eq_true rfl : 3 ≤ 5) _) hk.1, Nat.le_trans (Nat.add_le_add_left (Nat.le_of_ble_eq_true rfl : 18 ≤ 30) _) hk.2⟩ ?_
  show V X (k + 3) (n + 18) Q 2199 [some (.ref b), some (vr (xG X) 0), some (vr (xG X) 139), some (vr (xG X) 157), some (vi x4), none, none] [vi r_1] M_2
  refine x_istore (ls' := [some (.ref b), some (vr (xG X) 0), some (vr (xG X) 139), some (vr (xG X) 157), some (vi x4), some (vi r_1), none]) hX dL_law_2199 rfl rfl rfl ?_
  refine x_aloadn hX dL_law_2201 rfl ?_
  refine x_qload hX dL_law_2202 rfl ?_
  refine x_iload hX dL_law_2203 rfl ?_
  refine x_iconst hX dL_law_2205 ?_
  refine x_iadd hX dL_law_2206 ?_
  refine x_sld hX hx dL_law_2207 b1 e1 ?_
  refine x_qload hX dL_law_2208 rfl ?_
  refine x_iload hX dL_law_2209 rfl ?_
  refine x_iconst hX dL_law_2211 ?_
  refine x_iadd hX dL_law_2212 ?_
  refine x_sld hX hx dL_law_2213 b2 e2 ?_
  refine x_qload hX dL_law_2214 rfl ?_
  refine x_iload hX dL_law_2215 rfl ?_
  refine x_iconst hX dL_law_2217 ?_
  refine x_iadd hX dL_law_2218 ?_
  refine x_sld hX hx dL_law_2219 b3 e3 ?_
  obtain ⟨r_3, M_4, er_3, h⟩ := cl2_of h
  refine x_callVi (t := 11) (As := [vi p1, vi p2, vi p3]) (rest := []) hX dL_law_2220 (c_X12_stopItem (gk hX) (gl hX) hs p1 p2 p3 M_2 _ _ er_3) kX12_stopItem vX12_stopItem w_2099 (st139 hs) rfl rfl rfl rfl (Nat.le_of_ble_eq_true rfl) ⟨Nat.le_trans (Nat.add_le_add_left (Nat.le_of_ble_eq_true rfl : 3 ≤ 5) _) hk.1, Nat.le_trans (Nat.add_le_add_left (Nat.le_of_ble_eq_true rfl : 18 ≤ 30) _) hk.2⟩ ?_
  refine x_istore (ls' := [some (.ref b), some (vr (xG X) 0), some (vr (xG X) 139), some (vr (xG X) 157), some (vi x4), some (vi r_1), some (vi r_3)]) hX dL_law_2223 rfl rfl rfl ?_
  refine x_aloadn hX dL_law_2225 rfl ?_
  obtain ⟨r_5, er_5, h⟩ := cl1_of h
  refine x_callVi (t := 11) (As := []) (rest := []) hX dL_law_2226 (c_X12_thrown (gk hX) (gl hX) hs  M_4 _ er_5) kX12_thrown vX12_thrown w_1727 (st139 hs) rfl rfl rfl rfl (Nat.le_of_ble_eq_true rfl) ⟨Nat.le_trans (Nat.add_le_add_left (Nat.le_of_ble_eq_true rfl : 3 ≤ 5) _) hk.1, Nat.le_trans (Nat.add_le_add_left (Nat.le_of_ble_eq_true rfl : 18 ≤ 30) _) hk.2⟩ ?_
  refine x_iload hX dL_law_2229 rfl ?_
  refine x_icmp_eq (tgt := 2236) hX dL_law_2231 (by decide) rfl rfl (fun hc => ?_) (fun hc => ?_)
  · replace h := (if_pos hc).symm.trans h
    refine x_iload hX dL_law_2236 rfl ?_
    refine x_if_ne (tgt := 2253) hX dL_law_2238 (by decide) rfl (fun hc => ?_) (fun hc => ?_)
    · replace h := (if_pos hc).symm.trans h
      refine x_aloadn hX dL_law_2241 rfl ?_
      refine x_iconst hX dL_law_2242 ?_
      refine x_lald hX dL_law_2243 h3 inc_0_1 ixc_0 ?_
      refine x_iload hX dL_law_2244 rfl ?_
      refine x_i2l hX dL_law_2246 ?_
      refine x_lcmp hX dL_law_2247 ?_
      refine x_if_eq (tgt := 2253) hX dL_law_2248 (by decide) rfl (fun hc => ?_) (fun hc => ?_)
      · replace h := (if_pos hc).symm.trans h
        refine x_goto (tgt := 3147) hX dL_law_2253 (by decide) ?_
        cases h
        exact x_wid (k2 := k + 5) (n2 := n + 30) (Nat.add_le_add_left (Nat.le_of_ble_eq_true rfl : 3 ≤ 5) _) (Nat.add_le_add_left (Nat.le_of_ble_eq_true rfl : 18 ≤ 30) _) (x_weak [true, true, true, true, true, false, false] rfl hE)
      · replace h := (if_neg hc).symm.trans h
        refine x_iconst hX dL_law_2251 ?_
        cases h
    · replace h := (if_neg hc).symm.trans h
      refine x_goto (tgt := 3147) hX dL_law_2253 (by decide) ?_
      cases h
      exact x_wid (k2 := k + 5) (n2 := n + 30) (Nat.add_le_add_left (Nat.le_of_ble_eq_true rfl : 3 ≤ 5) _) (Nat.add_le_add_left (Nat.le_of_ble_eq_true rfl : 18 ≤ 30) _) (x_weak [true, true, true, true, true, false, false] rfl hE)
  · replace h := (if_neg hc).symm.trans h
    refine x_iconst hX dL_law_2234 ?_
    cases h

set_option maxRecDepth 100000 in
set_option maxHeartbeats 4000000 in
theorem law_34 {X : Cxt} (hX : Gd X RL cL_law 7 (some .boolean) 40) (hs : SOK (xG X)) (h3 : at_ (xG X) 157 4 1) {b Lx : Nat} {sx : Nat → Int} (hx : SX X b Lx sx) (x4 p1 p2 p3 p4 : Int) (b1 : inb (x4 + 1) Lx) (b2 : inb (x4 + 2) Lx) (b3 : inb (x4 + 3) Lx) (b4 : inb (x4 + 4) Lx) (e1 : sx (ix (x4 + 1)) = p1) (e2 : sx (ix (x4 + 2)) = p2) (e3 : sx (ix (x4 + 3)) = p3) (e4 : sx (ix (x4 + 4)) = p4) {k n : Nat} (hk : k + 5 ≤ (xR X).cells ∧ n + 30 ≤ (xR X).slots) {Q : State → Prop} (M Mr : Mem) (h : L_34 p1 p2 p3 p4 M = some Mr) (hE : V X (k + 5) (n + 30) Q 3147 [some (.ref b), some (vr (xG X) 0), some (vr (xG X) 139), some (vr (xG X) 157), some (vi x4), none, none] [] Mr) : V X k n Q 2256 [some (.ref b), some (vr (xG X) 0), some (vr (xG X) 139), some (vr (xG X) 157), some (vi x4), none, none] [] M := by
  unfold L_34 at h
  refine x_aloadn hX dL_law_2256 rfl ?_
  obtain ⟨r_1, M_2, er_1, h⟩ := cl2_of h
  refine x_callVi (t := 10) (As := []) (rest := []) hX dL_law_2257 (c_X11_savedDistance (gk hX) (gl hX) hs  M _ _ er_1) kX11_savedDistance vX11_savedDistance w_600 (st0 hs) rfl rfl rfl rfl (Nat.le_of_ble_eq_true rfl) ⟨Nat.le_trans (Nat.add_le_add_left (Nat.le_of_ble_eq_true rfl : 0 ≤ 5) _) hk.1, Nat.le_trans (Nat.add_le_add_left (Nat.le_of_ble_eq_true rfl : 0 ≤ 30) _) hk.2⟩ ?_
  refine x_aloadn hX dL_law_2260 rfl ?_
  obtain ⟨r_3, M_4, er_3, h⟩ := cl2_of h
  refine x_callVi (t := 11) (As := []) (rest := [vi r_1]) hX dL_law_2261 (c_X12_savedDistance (gk hX) (gl hX) hs  M_2 _ _ er_3) kX12_savedDistance vX12_savedDistance w_2103 (st139 hs) rfl rfl rfl rfl (Nat.le_of_ble_eq_true rfl) ⟨Nat.le_trans (Nat.add_le_add_left (Nat.le_of_ble_eq_true rfl : 0 ≤ 5) _) hk.1, Nat.le_trans (Nat.add_le_add_left (Nat.le_of_ble_eq_true rfl : 0 ≤ 30) _) hk.2⟩ ?_
  refine x_icmp_eq (tgt := 3147) hX dL_law_2264 (by decide) rfl rfl (fun hc => ?_) (fun hc => ?_)
  · replace h := (if_pos hc).symm.trans h
    cases h
    exact x_wid (k2 := k + 5) (n2 := n + 30) (Nat.add_le_add_left (Nat.le_of_ble_eq_true rfl : 0 ≤ 5) _) (Nat.add_le_add_left (Nat.le_of_ble_eq_true rfl : 0 ≤ 30) _) (x_weak [true, true, true, true, true, false, false] rfl hE)
  · replace h := (if_neg hc).symm.trans h
    refine x_iconst hX dL_law_2267 ?_
    cases h

set_option maxRecDepth 100000 in
set_option maxHeartbeats 4000000 in
theorem law_35 {X : Cxt} (hX : Gd X RL cL_law 7 (some .boolean) 40) (hs : SOK (xG X)) (h3 : at_ (xG X) 157 4 1) {b Lx : Nat} {sx : Nat → Int} (hx : SX X b Lx sx) (x4 p1 p2 p3 p4 : Int) (b1 : inb (x4 + 1) Lx) (b2 : inb (x4 + 2) Lx) (b3 : inb (x4 + 3) Lx) (b4 : inb (x4 + 4) Lx) (e1 : sx (ix (x4 + 1)) = p1) (e2 : sx (ix (x4 + 2)) = p2) (e3 : sx (ix (x4 + 3)) = p3) (e4 : sx (ix (x4 + 4)) = p4) {k n : Nat} (hk : k + 5 ≤ (xR X).cells ∧ n + 30 ≤ (xR X).slots) {Q : State → Prop} (M Mr : Mem) (h : L_35 p1 p2 p3 p4 M = some Mr) (hE : V X (k + 5) (n + 30) Q 3147 [some (.ref b), some (vr (xG X) 0), some (vr (xG X) 139), some (vr (xG X) 157), some (vi x4), none, none] [] Mr) : V X k n Q 2269 [some (.ref b), some (vr (xG X) 0), some (vr (xG X) 139), some (vr (xG X) 157), some (vi x4), none, none] [] M := by
  unfold L_35 at h
  refine x_aloadn hX dL_law_2269 rfl ?_
  refine x_qload hX dL_law_2270 rfl ?_
  refine x_iload hX dL_law_2271 rfl ?_
  refine x_iconst hX dL_law_2273 ?_
  refine x_iadd hX dL_law_2274 ?_
  refine x_sld hX hx dL_law_2275 b1 e1 ?_
  refine x_qload hX dL_law_2276 rfl ?_
  refine x_iload hX dL_law_2277 rfl ?_
  refine x_iconst hX dL_law_2279 ?_
  refine x_iadd hX dL_law_2280 ?_
  refine x_sld hX hx dL_law_2281 b2 e2 ?_
  refine x_aloadn hX dL_law_2282 rfl ?_
  obtain ⟨r_1, M_2, er_1, h⟩ := cl2_of h
  refine x_wS (As := [vr (xG X) 0, vi p1, vi p2, vr (xG X) 157]) (rest := []) hX dL_law_2283 (c_L_workTime (gk hX) (gl hX) hs h3 p1 p2 M _ _ er_1) kL_workTime w_1495 rfl rfl rfl (Nat.le_of_ble_eq_true rfl) ⟨Nat.le_trans (Nat.add_le_add_left (Nat.le_of_ble_eq_true rfl : 2 ≤ 5) _) hk.1, Nat.le_trans (Nat.add_le_add_left (Nat.le_of_ble_eq_true rfl : 12 ≤ 30) _) hk.2⟩ ?_
  show V X (k + 2) (n + 12) Q 2286 [some (.ref b), some (vr (xG X) 0), some (vr (xG X) 139), some (vr (xG X) 157), some (vi x4), none, none] [vi r_1] M_2
  refine x_istore (ls' := [some (.ref b), some (vr (xG X) 0), some (vr (xG X) 139), some (vr (xG X) 157), some (vi x4), some (vi r_1), none]) hX dL_law_2286 rfl rfl rfl ?_
  refine x_aloadn hX dL_law_2288 rfl ?_
  refine x_qload hX dL_law_2289 rfl ?_
  refine x_iload hX dL_law_2290 rfl ?_
  refine x_iconst hX dL_law_2292 ?_
  refine x_iadd hX dL_law_2293 ?_
  refine x_sld hX hx dL_law_2294 b1 e1 ?_
  refine x_qload hX dL_law_2295 rfl ?_
  refine x_iload hX dL_law_2296 rfl ?_
  refine x_iconst hX dL_law_2298 ?_
  refine x_iadd hX dL_law_2299 ?_
  refine x_sld hX hx dL_law_2300 b2 e2 ?_
  obtain ⟨r_3, M_4, er_3, h⟩ := cl2_of h
  refine x_callVi (t := 11) (As := [vi p1, vi p2]) (rest := []) hX dL_law_2301 (c_X12_workTime (gk hX) (gl hX) hs p1 p2 M_2 _ _ er_3) kX12_workTime vX12_workTime w_2111 (st139 hs) rfl rfl rfl rfl (Nat.le_of_ble_eq_true rfl) ⟨Nat.le_trans (Nat.add_le_add_left (Nat.le_of_ble_eq_true rfl : 2 ≤ 5) _) hk.1, Nat.le_trans (Nat.add_le_add_left (Nat.le_of_ble_eq_true rfl : 12 ≤ 30) _) hk.2⟩ ?_
  refine x_istore (ls' := [some (.ref b), some (vr (xG X) 0), some (vr (xG X) 139), some (vr (xG X) 157), some (vi x4), some (vi r_1), some (vi r_3)]) hX dL_law_2304 rfl rfl rfl ?_
  refine x_aloadn hX dL_law_2306 rfl ?_
  obtain ⟨r_5, er_5, h⟩ := cl1_of h
  refine x_callVi (t := 11) (As := []) (rest := []) hX dL_law_2307 (c_X12_thrown (gk hX) (gl hX) hs  M_4 _ er_5) kX12_thrown vX12_thrown w_1727 (st139 hs) rfl rfl rfl rfl (Nat.le_of_ble_eq_true rfl) ⟨Nat.le_trans (Nat.add_le_add_left (Nat.le_of_ble_eq_true rfl : 2 ≤ 5) _) hk.1, Nat.le_trans (Nat.add_le_add_left (Nat.le_of_ble_eq_true rfl : 12 ≤ 30) _) hk.2⟩ ?_
  refine x_iload hX dL_law_2310 rfl ?_
  refine x_icmp_eq (tgt := 2317) hX dL_law_2312 (by decide) rfl rfl (fun hc => ?_) (fun hc => ?_)
  · replace h := (if_pos hc).symm.trans h
    refine x_iload hX dL_law_2317 rfl ?_
    refine x_if_ne (tgt := 2334) hX dL_law_2319 (by decide) rfl (fun hc => ?_) (fun hc => ?_)
    · replace h := (if_pos hc).symm.trans h
      refine x_aloadn hX dL_law_2322 rfl ?_
      refine x_iconst hX dL_law_2323 ?_
      refine x_lald hX dL_law_2324 h3 inc_0_1 ixc_0 ?_
      refine x_iload hX dL_law_2325 rfl ?_
      refine x_i2l hX dL_law_2327 ?_
      refine x_lcmp hX dL_law_2328 ?_
      refine x_if_eq (tgt := 2334) hX dL_law_2329 (by decide) rfl (fun hc => ?_) (fun hc => ?_)
      · replace h := (if_pos hc).symm.trans h
        refine x_goto (tgt := 3147) hX dL_law_2334 (by decide) ?_
        cases h
        exact x_wid (k2 := k + 5) (n2 := n + 30) (Nat.add_le_add_left (Nat.le_of_ble_eq_true rfl : 2 ≤ 5) _) (Nat.add_le_add_left (Nat.le_of_ble_eq_true rfl : 12 ≤ 30) _) (x_weak [true, true, true, true, true, false, false] rfl hE)
      · replace h := (if_neg hc).symm.trans h
        refine x_iconst hX dL_law_2332 ?_
        cases h
    · replace h := (if_neg hc).symm.trans h
      refine x_goto (tgt := 3147) hX dL_law_2334 (by decide) ?_
      cases h
      exact x_wid (k2 := k + 5) (n2 := n + 30) (Nat.add_le_add_left (Nat.le_of_ble_eq_true rfl : 2 ≤ 5) _) (Nat.add_le_add_left (Nat.le_of_ble_eq_true rfl : 12 ≤ 30) _) (x_weak [true, true, true, true, true, false, false] rfl hE)
  · replace h := (if_neg hc).symm.trans h
    refine x_iconst hX dL_law_2315 ?_
    cases h

set_option maxRecDepth 100000 in
set_option maxHeartbeats 4000000 in
theorem law_36 {X : Cxt} (hX : Gd X RL cL_law 7 (some .boolean) 40) (hs : SOK (xG X)) (h3 : at_ (xG X) 157 4 1) {b Lx : Nat} {sx : Nat → Int} (hx : SX X b Lx sx) (x4 p1 p2 p3 p4 : Int) (b1 : inb (x4 + 1) Lx) (b2 : inb (x4 + 2) Lx) (b3 : inb (x4 + 3) Lx) (b4 : inb (x4 + 4) Lx) (e1 : sx (ix (x4 + 1)) = p1) (e2 : sx (ix (x4 + 2)) = p2) (e3 : sx (ix (x4 + 3)) = p3) (e4 : sx (ix (x4 + 4)) = p4) {k n : Nat} (hk : k + 5 ≤ (xR X).cells ∧ n + 30 ≤ (xR X).slots) {Q : State → Prop} (M Mr : Mem) (h : L_36 p1 p2 p3 p4 M = some Mr) (hE : V X (k + 5) (n + 30) Q 3147 [some (.ref b), some (vr (xG X) 0), some (vr (xG X) 139), some (vr (xG X) 157), some (vi x4), none, none] [] Mr) : V X k n Q 2337 [some (.ref b), some (vr (xG X) 0), some (vr (xG X) 139), some (vr (xG X) 157), some (vi x4), none, none] [] M := by
  unfold L_36 at h
  refine x_aloadn hX dL_law_2337 rfl ?_
  refine x_qload hX dL_law_2338 rfl ?_
  refine x_iload hX dL_law_2339 rfl ?_
  refine x_iconst hX dL_law_2341 ?_
  refine x_iadd hX dL_law_2342 ?_
  refine x_sld hX hx dL_law_2343 b1 e1 ?_
  refine x_qload hX dL_law_2344 rfl ?_
  refine x_iload hX dL_law_2345 rfl ?_
  refine x_iconst hX dL_law_2347 ?_
  refine x_iadd hX dL_law_2348 ?_
  refine x_sld hX hx dL_law_2349 b2 e2 ?_
  refine x_aloadn hX dL_law_2350 rfl ?_
  obtain ⟨r_1, M_2, er_1, h⟩ := cl2_of h
  refine x_wS (As := [vr (xG X) 0, vi p1, vi p2, vr (xG X) 157]) (rest := []) hX dL_law_2351 (c_L_startTime (gk hX) (gl hX) hs h3 p1 p2 M _ _ er_1) kL_startTime w_1503 rfl rfl rfl (Nat.le_of_ble_eq_true rfl) ⟨Nat.le_trans (Nat.add_le_add_left (Nat.le_of_ble_eq_true rfl : 2 ≤ 5) _) hk.1, Nat.le_trans (Nat.add_le_add_left (Nat.le_of_ble_eq_true rfl : 12 ≤ 30) _) hk.2⟩ ?_
  show V X (k + 2) (n + 12) Q 2354 [some (.ref b), some (vr (xG X) 0), some (vr (xG X) 139), some (vr (xG X) 157), some (vi x4), none, none] [vi r_1] M_2
  refine x_istore (ls' := [some (.ref b), some (vr (xG X) 0), some (vr (xG X) 139), some (vr (xG X) 157), some (vi x4), some (vi r_1), none]) hX dL_law_2354 rfl rfl rfl ?_
  refine x_aloadn hX dL_law_2356 rfl ?_
  refine x_qload hX dL_law_2357 rfl ?_
  refine x_iload hX dL_law_2358 rfl ?_
  refine x_iconst hX dL_law_2360 ?_
  refine x_iadd hX dL_law_2361 ?_
  refine x_sld hX hx dL_law_2362 b1 e1 ?_
  refine x_qload hX dL_law_2363 rfl ?_
  refine x_iload hX dL_law_2364 rfl ?_
  refine x_iconst hX dL_law_2366 ?_
  refine x_iadd hX dL_law_2367 ?_
  refine x_sld hX hx dL_law_2368 b2 e2 ?_
  obtain ⟨r_3, M_4, er_3, h⟩ := cl2_of h
  refine x_callVi (t := 11) (As := [vi p1, vi p2]) (rest := []) hX dL_law_2369 (c_X12_startTime (gk hX) (gl hX) hs p1 p2 M_2 _ _ er_3) kX12_startTime vX12_startTime w_2138 (st139 hs) rfl rfl rfl rfl (Nat.le_of_ble_eq_true rfl) ⟨Nat.le_trans (Nat.add_le_add_left (Nat.le_of_ble_eq_true rfl : 2 ≤ 5) _) hk.1, Nat.le_trans (Nat.add_le_add_left (Nat.le_of_ble_eq_true rfl : 12 ≤ 30) _) hk.2⟩ ?_
  refine x_istore (ls' := [some (.ref b), some (vr (xG X) 0), some (vr (xG X) 139), some (vr (xG X) 157), some (vi x4), some (vi r_1), some (vi r_3)]) hX dL_law_2372 rfl rfl rfl ?_
  refine x_aloadn hX dL_law_2374 rfl ?_
  obtain ⟨r_5, er_5, h⟩ := cl1_of h
  refine x_callVi (t := 11) (As := []) (rest := []) hX dL_law_2375 (c_X12_thrown (gk hX) (gl hX) hs  M_4 _ er_5) kX12_thrown vX12_thrown w_1727 (st139 hs) rfl rfl rfl rfl (Nat.le_of_ble_eq_true rfl) ⟨Nat.le_trans (Nat.add_le_add_left (Nat.le_of_ble_eq_true rfl : 2 ≤ 5) _) hk.1, Nat.le_trans (Nat.add_le_add_left (Nat.le_of_ble_eq_true rfl : 12 ≤ 30) _) hk.2⟩ ?_
  refine x_iload hX dL_law_2378 rfl ?_
  refine x_icmp_eq (tgt := 2385) hX dL_law_2380 (by decide) rfl rfl (fun hc => ?_) (fun hc => ?_)
  · replace h := (if_pos hc).symm.trans h
    refine x_iload hX dL_law_2385 rfl ?_
    refine x_if_ne (tgt := 2402) hX dL_law_2387 (by decide) rfl (fun hc => ?_) (fun hc => ?_)
    · replace h := (if_pos hc).symm.trans h
      refine x_aloadn hX dL_law_2390 rfl ?_
      refine x_iconst hX dL_law_2391 ?_
      refine x_lald hX dL_law_2392 h3 inc_0_1 ixc_0 ?_
      refine x_iload hX dL_law_2393 rfl ?_
      refine x_i2l hX dL_law_2395 ?_
      refine x_lcmp hX dL_law_2396 ?_
      refine x_if_eq (tgt := 2402) hX dL_law_2397 (by decide) rfl (fun hc => ?_) (fun hc => ?_)
      · replace h := (if_pos hc).symm.trans h
        refine x_goto (tgt := 3147) hX dL_law_2402 (by decide) ?_
        cases h
        exact x_wid (k2 := k + 5) (n2 := n + 30) (Nat.add_le_add_left (Nat.le_of_ble_eq_true rfl : 2 ≤ 5) _) (Nat.add_le_add_left (Nat.le_of_ble_eq_true rfl : 12 ≤ 30) _) (x_weak [true, true, true, true, true, false, false] rfl hE)
      · replace h := (if_neg hc).symm.trans h
        refine x_iconst hX dL_law_2400 ?_
        cases h
    · replace h := (if_neg hc).symm.trans h
      refine x_goto (tgt := 3147) hX dL_law_2402 (by decide) ?_
      cases h
      exact x_wid (k2 := k + 5) (n2 := n + 30) (Nat.add_le_add_left (Nat.le_of_ble_eq_true rfl : 2 ≤ 5) _) (Nat.add_le_add_left (Nat.le_of_ble_eq_true rfl : 12 ≤ 30) _) (x_weak [true, true, true, true, true, false, false] rfl hE)
  · replace h := (if_neg hc).symm.trans h
    refine x_iconst hX dL_law_2383 ?_
    cases h

set_option maxRecDepth 100000 in
set_option maxHeartbeats 4000000 in
theorem law_37 {X : Cxt} (hX : Gd X RL cL_law 7 (some .boolean) 40) (hs : SOK (xG X)) (h3 : at_ (xG X) 157 4 1) {b Lx : Nat} {sx : Nat → Int} (hx : SX X b Lx sx) (x4 p1 p2 p3 p4 : Int) (b1 : inb (x4 + 1) Lx) (b2 : inb (x4 + 2) Lx) (b3 : inb (x4 + 3) Lx) (b4 : inb (x4 + 4) Lx) (e1 : sx (ix (x4 + 1)) = p1) (e2 : sx (ix (x4 + 2)) = p2) (e3 : sx (ix (x4 + 3)) = p3) (e4 : sx (ix (x4 + 4)) = p4) {k n : Nat} (hk : k + 5 ≤ (xR X).cells ∧ n + 30 ≤ (xR X).slots) {Q : State → Prop} (M Mr : Mem) (h : L_37 p1 p2 p3 p4 M = some Mr) (hE : V X (k + 5) (n + 30) Q 3147 [some (.ref b), some (vr (xG X) 0), some (vr (xG X) 139), some (vr (xG X) 157), some (vi x4), none, none] [] Mr) : V X k n Q 2405 [some (.ref b), some (vr (xG X) 0), some (vr (xG X) 139), some (vr (xG X) 157), some (vi x4), none, none] [] M := by
  unfold L_37 at h
  refine x_aloadn hX dL_law_2405 rfl ?_
  refine x_qload hX dL_law_2406 rfl ?_
  refine x_iload hX dL_law_2407 rfl ?_
  refine x_iconst hX dL_law_2409 ?_
  refine x_iadd hX dL_law_2410 ?_
  refine x_sld hX hx dL_law_2411 b1 e1 ?_
  refine x_qload hX dL_law_2412 rfl ?_
  refine x_iload hX dL_law_2413 rfl ?_
  refine x_iconst hX dL_law_2415 ?_
  refine x_iadd hX dL_law_2416 ?_
  refine x_sld hX hx dL_law_2417 b2 e2 ?_
  refine x_aloadn hX dL_law_2418 rfl ?_
  obtain ⟨r_1, M_2, er_1, h⟩ := cl2_of h
  refine x_wS (As := [vr (xG X) 0, vi p1, vi p2, vr (xG X) 157]) (rest := []) hX dL_law_2419 (c_L_leaveTime (gk hX) (gl hX) hs h3 p1 p2 M _ _ er_1) kL_leaveTime w_1510 rfl rfl rfl (Nat.le_of_ble_eq_true rfl) ⟨Nat.le_trans (Nat.add_le_add_left (Nat.le_of_ble_eq_true rfl : 2 ≤ 5) _) hk.1, Nat.le_trans (Nat.add_le_add_left (Nat.le_of_ble_eq_true rfl : 12 ≤ 30) _) hk.2⟩ ?_
  show V X (k + 2) (n + 12) Q 2422 [some (.ref b), some (vr (xG X) 0), some (vr (xG X) 139), some (vr (xG X) 157), some (vi x4), none, none] [vi r_1] M_2
  refine x_istore (ls' := [some (.ref b), some (vr (xG X) 0), some (vr (xG X) 139), some (vr (xG X) 157), some (vi x4), some (vi r_1), none]) hX dL_law_2422 rfl rfl rfl ?_
  refine x_aloadn hX dL_law_2424 rfl ?_
  refine x_qload hX dL_law_2425 rfl ?_
  refine x_iload hX dL_law_2426 rfl ?_
  refine x_iconst hX dL_law_2428 ?_
  refine x_iadd hX dL_law_2429 ?_
  refine x_sld hX hx dL_law_2430 b1 e1 ?_
  refine x_qload hX dL_law_2431 rfl ?_
  refine x_iload hX dL_law_2432 rfl ?_
  refine x_iconst hX dL_law_2434 ?_
  refine x_iadd hX dL_law_2435 ?_
  refine x_sld hX hx dL_law_2436 b2 e2 ?_
  obtain ⟨r_3, M_4, er_3, h⟩ := cl2_of h
  refine x_callVi (t := 11) (As := [vi p1, vi p2]) (rest := []) hX dL_law_2437 (c_X12_leaveTime (gk hX) (gl hX) hs p1 p2 M_2 _ _ er_3) kX12_leaveTime vX12_leaveTime w_2142 (st139 hs) rfl rfl rfl rfl (Nat.le_of_ble_eq_true rfl) ⟨Nat.le_trans (Nat.add_le_add_left (Nat.le_of_ble_eq_true rfl : 2 ≤ 5) _) hk.1, Nat.le_trans (Nat.add_le_add_left (Nat.le_of_ble_eq_true rfl : 12 ≤ 30) _) hk.2⟩ ?_
  refine x_istore (ls' := [some (.ref b), some (vr (xG X) 0), some (vr (xG X) 139), some (vr (xG X) 157), some (vi x4), some (vi r_1), some (vi r_3)]) hX dL_law_2440 rfl rfl rfl ?_
  refine x_aloadn hX dL_law_2442 rfl ?_
  obtain ⟨r_5, er_5, h⟩ := cl1_of h
  refine x_callVi (t := 11) (As := []) (rest := []) hX dL_law_2443 (c_X12_thrown (gk hX) (gl hX) hs  M_4 _ er_5) kX12_thrown vX12_thrown w_1727 (st139 hs) rfl rfl rfl rfl (Nat.le_of_ble_eq_true rfl) ⟨Nat.le_trans (Nat.add_le_add_left (Nat.le_of_ble_eq_true rfl : 2 ≤ 5) _) hk.1, Nat.le_trans (Nat.add_le_add_left (Nat.le_of_ble_eq_true rfl : 12 ≤ 30) _) hk.2⟩ ?_
  refine x_iload hX dL_law_2446 rfl ?_
  refine x_icmp_eq (tgt := 2453) hX dL_law_2448 (by decide) rfl rfl (fun hc => ?_) (fun hc => ?_)
  · replace h := (if_pos hc).symm.trans h
    refine x_iload hX dL_law_2453 rfl ?_
    refine x_if_ne (tgt := 2470) hX dL_law_2455 (by decide) rfl (fun hc => ?_) (fun hc => ?_)
    · replace h := (if_pos hc).symm.trans h
      refine x_aloadn hX dL_law_2458 rfl ?_
      refine x_iconst hX dL_law_2459 ?_
      refine x_lald hX dL_law_2460 h3 inc_0_1 ixc_0 ?_
      refine x_iload hX dL_law_2461 rfl ?_
      refine x_i2l hX dL_law_2463 ?_
      refine x_lcmp hX dL_law_2464 ?_
      refine x_if_eq (tgt := 2470) hX dL_law_2465 (by decide) rfl (fun hc => ?_) (fun hc => ?_)
      · replace h := (if_pos hc).symm.trans h
        refine x_goto (tgt := 3147) hX dL_law_2470 (by decide) ?_
        cases h
        exact x_wid (k2 := k + 5) (n2 := n + 30) (Nat.add_le_add_left (Nat.le_of_ble_eq_true rfl : 2 ≤ 5) _) (Nat.add_le_add_left (Nat.le_of_ble_eq_true rfl : 12 ≤ 30) _) (x_weak [true, true, true, true, true, false, false] rfl hE)
      · replace h := (if_neg hc).symm.trans h
        refine x_iconst hX dL_law_2468 ?_
        cases h
    · replace h := (if_neg hc).symm.trans h
      refine x_goto (tgt := 3147) hX dL_law_2470 (by decide) ?_
      cases h
      exact x_wid (k2 := k + 5) (n2 := n + 30) (Nat.add_le_add_left (Nat.le_of_ble_eq_true rfl : 2 ≤ 5) _) (Nat.add_le_add_left (Nat.le_of_ble_eq_true rfl : 12 ≤ 30) _) (x_weak [true, true, true, true, true, false, false] rfl hE)
  · replace h := (if_neg hc).symm.trans h
    refine x_iconst hX dL_law_2451 ?_
    cases h

set_option maxRecDepth 100000 in
set_option maxHeartbeats 4000000 in
theorem law_38 {X : Cxt} (hX : Gd X RL cL_law 7 (some .boolean) 40) (hs : SOK (xG X)) (h3 : at_ (xG X) 157 4 1) {b Lx : Nat} {sx : Nat → Int} (hx : SX X b Lx sx) (x4 p1 p2 p3 p4 : Int) (b1 : inb (x4 + 1) Lx) (b2 : inb (x4 + 2) Lx) (b3 : inb (x4 + 3) Lx) (b4 : inb (x4 + 4) Lx) (e1 : sx (ix (x4 + 1)) = p1) (e2 : sx (ix (x4 + 2)) = p2) (e3 : sx (ix (x4 + 3)) = p3) (e4 : sx (ix (x4 + 4)) = p4) {k n : Nat} (hk : k + 5 ≤ (xR X).cells ∧ n + 30 ≤ (xR X).slots) {Q : State → Prop} (M Mr : Mem) (h : L_38 p1 p2 p3 p4 M = some Mr) (hE : V X (k + 5) (n + 30) Q 3147 [some (.ref b), some (vr (xG X) 0), some (vr (xG X) 139), some (vr (xG X) 157), some (vi x4), none, none] [] Mr) : V X k n Q 2473 [some (.ref b), some (vr (xG X) 0), some (vr (xG X) 139), some (vr (xG X) 157), some (vi x4), none, none] [] M := by
  unfold L_38 at h
  refine x_aloadn hX dL_law_2473 rfl ?_
  refine x_qload hX dL_law_2474 rfl ?_
  refine x_iload hX dL_law_2475 rfl ?_
  refine x_iconst hX dL_law_2477 ?_
  refine x_iadd hX dL_law_2478 ?_
  refine x_sld hX hx dL_law_2479 b1 e1 ?_
  refine x_aloadn hX dL_law_2480 rfl ?_
  obtain ⟨r_1, M_2, er_1, h⟩ := cl2_of h
  refine x_wS (As := [vr (xG X) 0, vi p1, vr (xG X) 157]) (rest := []) hX dL_law_2481 (c_L_blockedTime (gk hX) (gl hX) hs h3 p1 M _ _ er_1) kL_blockedTime w_1517 rfl rfl rfl (Nat.le_of_ble_eq_true rfl) ⟨Nat.le_trans (Nat.add_le_add_left (Nat.le_of_ble_eq_true rfl : 1 ≤ 5) _) hk.1, Nat.le_trans (Nat.add_le_add_left (Nat.le_of_ble_eq_true rfl : 6 ≤ 30) _) hk.2⟩ ?_
  show V X (k + 1) (n + 6) Q 2484 [some (.ref b), some (vr (xG X) 0), some (vr (xG X) 139), some (vr (xG X) 157), some (vi x4), none, none] [vi r_1] M_2
  refine x_istore (ls' := [some (.ref b), some (vr (xG X) 0), some (vr (xG X) 139), some (vr (xG X) 157), some (vi x4), some (vi r_1), none]) hX dL_law_2484 rfl rfl rfl ?_
  refine x_aloadn hX dL_law_2486 rfl ?_
  refine x_qload hX dL_law_2487 rfl ?_
  refine x_iload hX dL_law_2488 rfl ?_
  refine x_iconst hX dL_law_2490 ?_
  refine x_iadd hX dL_law_2491 ?_
  refine x_sld hX hx dL_law_2492 b1 e1 ?_
  obtain ⟨r_3, M_4, er_3, h⟩ := cl2_of h
  refine x_callVi (t := 11) (As := [vi p1]) (rest := []) hX dL_law_2493 (c_X12_blockedTime (gk hX) (gl hX) hs p1 M_2 _ _ er_3) kX12_blockedTime vX12_blockedTime w_2146 (st139 hs) rfl rfl rfl rfl (Nat.le_of_ble_eq_true rfl) ⟨Nat.le_trans (Nat.add_le_add_left (Nat.le_of_ble_eq_true rfl : 1 ≤ 5) _) hk.1, Nat.le_trans (Nat.add_le_add_left (Nat.le_of_ble_eq_true rfl : 6 ≤ 30) _) hk.2⟩ ?_
  refine x_istore (ls' := [some (.ref b), some (vr (xG X) 0), some (vr (xG X) 139), some (vr (xG X) 157), some (vi x4), some (vi r_1), some (vi r_3)]) hX dL_law_2496 rfl rfl rfl ?_
  refine x_aloadn hX dL_law_2498 rfl ?_
  obtain ⟨r_5, er_5, h⟩ := cl1_of h
  refine x_callVi (t := 11) (As := []) (rest := []) hX dL_law_2499 (c_X12_thrown (gk hX) (gl hX) hs  M_4 _ er_5) kX12_thrown vX12_thrown w_1727 (st139 hs) rfl rfl rfl rfl (Nat.le_of_ble_eq_true rfl) ⟨Nat.le_trans (Nat.add_le_add_left (Nat.le_of_ble_eq_true rfl : 1 ≤ 5) _) hk.1, Nat.le_trans (Nat.add_le_add_left (Nat.le_of_ble_eq_true rfl : 6 ≤ 30) _) hk.2⟩ ?_
  refine x_iload hX dL_law_2502 rfl ?_
  refine x_icmp_eq (tgt := 2509) hX dL_law_2504 (by decide) rfl rfl (fun hc => ?_) (fun hc => ?_)
  · replace h := (if_pos hc).symm.trans h
    refine x_iload hX dL_law_2509 rfl ?_
    refine x_if_ne (tgt := 2526) hX dL_law_2511 (by decide) rfl (fun hc => ?_) (fun hc => ?_)
    · replace h := (if_pos hc).symm.trans h
      refine x_aloadn hX dL_law_2514 rfl ?_
      refine x_iconst hX dL_law_2515 ?_
      refine x_lald hX dL_law_2516 h3 inc_0_1 ixc_0 ?_
      refine x_iload hX dL_law_2517 rfl ?_
      refine x_i2l hX dL_law_2519 ?_
      refine x_lcmp hX dL_law_2520 ?_
      refine x_if_eq (tgt := 2526) hX dL_law_2521 (by decide) rfl (fun hc => ?_) (fun hc => ?_)
      · replace h := (if_pos hc).symm.trans h
        refine x_goto (tgt := 3147) hX dL_law_2526 (by decide) ?_
        cases h
        exact x_wid (k2 := k + 5) (n2 := n + 30) (Nat.add_le_add_left (Nat.le_of_ble_eq_true rfl : 1 ≤ 5) _) (Nat.add_le_add_left (Nat.le_of_ble_eq_true rfl : 6 ≤ 30) _) (x_weak [true, true, true, true, true, false, false] rfl hE)
      · replace h := (if_neg hc).symm.trans h
        refine x_iconst hX dL_law_2524 ?_
        cases h
    · replace h := (if_neg hc).symm.trans h
      refine x_goto (tgt := 3147) hX dL_law_2526 (by decide) ?_
      cases h
      exact x_wid (k2 := k + 5) (n2 := n + 30) (Nat.add_le_add_left (Nat.le_of_ble_eq_true rfl : 1 ≤ 5) _) (Nat.add_le_add_left (Nat.le_of_ble_eq_true rfl : 6 ≤ 30) _) (x_weak [true, true, true, true, true, false, false] rfl hE)
  · replace h := (if_neg hc).symm.trans h
    refine x_iconst hX dL_law_2507 ?_
    cases h

set_option maxRecDepth 100000 in
set_option maxHeartbeats 4000000 in
theorem law_39 {X : Cxt} (hX : Gd X RL cL_law 7 (some .boolean) 40) (hs : SOK (xG X)) (h3 : at_ (xG X) 157 4 1) {b Lx : Nat} {sx : Nat → Int} (hx : SX X b Lx sx) (x4 p1 p2 p3 p4 : Int) (b1 : inb (x4 + 1) Lx) (b2 : inb (x4 + 2) Lx) (b3 : inb (x4 + 3) Lx) (b4 : inb (x4 + 4) Lx) (e1 : sx (ix (x4 + 1)) = p1) (e2 : sx (ix (x4 + 2)) = p2) (e3 : sx (ix (x4 + 3)) = p3) (e4 : sx (ix (x4 + 4)) = p4) {k n : Nat} (hk : k + 5 ≤ (xR X).cells ∧ n + 30 ≤ (xR X).slots) {Q : State → Prop} (M Mr : Mem) (h : L_39 p1 p2 p3 p4 M = some Mr) (hE : V X (k + 5) (n + 30) Q 3147 [some (.ref b), some (vr (xG X) 0), some (vr (xG X) 139), some (vr (xG X) 157), some (vi x4), none, none] [] Mr) : V X k n Q 2529 [some (.ref b), some (vr (xG X) 0), some (vr (xG X) 139), some (vr (xG X) 157), some (vi x4), none, none] [] M := by
  unfold L_39 at h
  refine x_aloadn hX dL_law_2529 rfl ?_
  obtain ⟨r_1, M_2, er_1, h⟩ := cl2_of h
  refine x_callVi (t := 10) (As := []) (rest := []) hX dL_law_2530 (c_X11_makespan (gk hX) (gl hX) hs  M _ _ er_1) kX11_makespan vX11_makespan w_667 (st0 hs) rfl rfl rfl rfl (Nat.le_of_ble_eq_true rfl) ⟨Nat.le_trans (Nat.add_le_add_left (Nat.le_of_ble_eq_true rfl : 0 ≤ 5) _) hk.1, Nat.le_trans (Nat.add_le_add_left (Nat.le_of_ble_eq_true rfl : 0 ≤ 30) _) hk.2⟩ ?_
  refine x_aloadn hX dL_law_2533 rfl ?_
  obtain ⟨r_3, M_4, er_3, h⟩ := cl2_of h
  refine x_callVi (t := 11) (As := []) (rest := [vi r_1]) hX dL_law_2534 (c_X12_makespan (gk hX) (gl hX) hs  M_2 _ _ er_3) kX12_makespan vX12_makespan w_2150 (st139 hs) rfl rfl rfl rfl (Nat.le_of_ble_eq_true rfl) ⟨Nat.le_trans (Nat.add_le_add_left (Nat.le_of_ble_eq_true rfl : 0 ≤ 5) _) hk.1, Nat.le_trans (Nat.add_le_add_left (Nat.le_of_ble_eq_true rfl : 0 ≤ 30) _) hk.2⟩ ?_
  refine x_icmp_eq (tgt := 3147) hX dL_law_2537 (by decide) rfl rfl (fun hc => ?_) (fun hc => ?_)
  · replace h := (if_pos hc).symm.trans h
    cases h
    exact x_wid (k2 := k + 5) (n2 := n + 30) (Nat.add_le_add_left (Nat.le_of_ble_eq_true rfl : 0 ≤ 5) _) (Nat.add_le_add_left (Nat.le_of_ble_eq_true rfl : 0 ≤ 30) _) (x_weak [true, true, true, true, true, false, false] rfl hE)
  · replace h := (if_neg hc).symm.trans h
    refine x_iconst hX dL_law_2540 ?_
    cases h

set_option maxRecDepth 100000 in
set_option maxHeartbeats 4000000 in
theorem law_40 {X : Cxt} (hX : Gd X RL cL_law 7 (some .boolean) 40) (hs : SOK (xG X)) (h3 : at_ (xG X) 157 4 1) {b Lx : Nat} {sx : Nat → Int} (hx : SX X b Lx sx) (x4 p1 p2 p3 p4 : Int) (b1 : inb (x4 + 1) Lx) (b2 : inb (x4 + 2) Lx) (b3 : inb (x4 + 3) Lx) (b4 : inb (x4 + 4) Lx) (e1 : sx (ix (x4 + 1)) = p1) (e2 : sx (ix (x4 + 2)) = p2) (e3 : sx (ix (x4 + 3)) = p3) (e4 : sx (ix (x4 + 4)) = p4) {k n : Nat} (hk : k + 5 ≤ (xR X).cells ∧ n + 30 ≤ (xR X).slots) {Q : State → Prop} (M Mr : Mem) (h : L_40 p1 p2 p3 p4 M = some Mr) (hE : V X (k + 5) (n + 30) Q 3147 [some (.ref b), some (vr (xG X) 0), some (vr (xG X) 139), some (vr (xG X) 157), some (vi x4), none, none] [] Mr) : V X k n Q 2542 [some (.ref b), some (vr (xG X) 0), some (vr (xG X) 139), some (vr (xG X) 157), some (vi x4), none, none] [] M := by
  unfold L_40 at h
  refine x_aloadn hX dL_law_2542 rfl ?_
  refine x_qload hX dL_law_2543 rfl ?_
  refine x_iload hX dL_law_2544 rfl ?_
  refine x_iconst hX dL_law_2546 ?_
  refine x_iadd hX dL_law_2547 ?_
  refine x_sld hX hx dL_law_2548 b1 e1 ?_
  refine x_aloadn hX dL_law_2549 rfl ?_
  obtain ⟨r_1, M_2, er_1, h⟩ := cl2_of h
  refine x_wS (As := [vr (xG X) 0, vi p1, vr (xG X) 157]) (rest := []) hX dL_law_2550 (c_L_lateness (gk hX) (gl hX) hs h3 p1 M _ _ er_1) kL_lateness w_1524 rfl rfl rfl (Nat.le_of_ble_eq_true rfl) ⟨Nat.le_trans (Nat.add_le_add_left (Nat.le_of_ble_eq_true rfl : 2 ≤ 5) _) hk.1, Nat.le_trans (Nat.add_le_add_left (Nat.le_of_ble_eq_true rfl : 12 ≤ 30) _) hk.2⟩ ?_
  show V X (k + 2) (n + 12) Q 2553 [some (.ref b), some (vr (xG X) 0), some (vr (xG X) 139), some (vr (xG X) 157), some (vi x4), none, none] [vi r_1] M_2
  refine x_istore (ls' := [some (.ref b), some (vr (xG X) 0), some (vr (xG X) 139), some (vr (xG X) 157), some (vi x4), some (vi r_1), none]) hX dL_law_2553 rfl rfl rfl ?_
  refine x_aloadn hX dL_law_2555 rfl ?_
  refine x_qload hX dL_law_2556 rfl ?_
  refine x_iload hX dL_law_2557 rfl ?_
  refine x_iconst hX dL_law_2559 ?_
  refine x_iadd hX dL_law_2560 ?_
  refine x_sld hX hx dL_law_2561 b1 e1 ?_
  obtain ⟨r_3, M_4, er_3, h⟩ := cl2_of h
  refine x_callVi (t := 11) (As := [vi p1]) (rest := []) hX dL_law_2562 (c_X12_lateness (gk hX) (gl hX) hs p1 M_2 _ _ er_3) kX12_lateness vX12_lateness w_2158 (st139 hs) rfl rfl rfl rfl (Nat.le_of_ble_eq_true rfl) ⟨Nat.le_trans (Nat.add_le_add_left (Nat.le_of_ble_eq_true rfl : 2 ≤ 5) _) hk.1, Nat.le_trans (Nat.add_le_add_left (Nat.le_of_ble_eq_true rfl : 12 ≤ 30) _) hk.2⟩ ?_
  refine x_istore (ls' := [some (.ref b), some (vr (xG X) 0), some (vr (xG X) 139), some (vr (xG X) 157), some (vi x4), some (vi r_1), some (vi r_3)]) hX dL_law_2565 rfl rfl rfl ?_
  refine x_aloadn hX dL_law_2567 rfl ?_
  obtain ⟨r_5, er_5, h⟩ := cl1_of h
  refine x_callVi (t := 11) (As := []) (rest := []) hX dL_law_2568 (c_X12_thrown (gk hX) (gl hX) hs  M_4 _ er_5) kX12_thrown vX12_thrown w_1727 (st139 hs) rfl rfl rfl rfl (Nat.le_of_ble_eq_true rfl) ⟨Nat.le_trans (Nat.add_le_add_left (Nat.le_of_ble_eq_true rfl : 2 ≤ 5) _) hk.1, Nat.le_trans (Nat.add_le_add_left (Nat.le_of_ble_eq_true rfl : 12 ≤ 30) _) hk.2⟩ ?_
  refine x_iload hX dL_law_2571 rfl ?_
  refine x_icmp_eq (tgt := 2578) hX dL_law_2573 (by decide) rfl rfl (fun hc => ?_) (fun hc => ?_)
  · replace h := (if_pos hc).symm.trans h
    refine x_iload hX dL_law_2578 rfl ?_
    refine x_if_ne (tgt := 2595) hX dL_law_2580 (by decide) rfl (fun hc => ?_) (fun hc => ?_)
    · replace h := (if_pos hc).symm.trans h
      refine x_aloadn hX dL_law_2583 rfl ?_
      refine x_iconst hX dL_law_2584 ?_
      refine x_lald hX dL_law_2585 h3 inc_0_1 ixc_0 ?_
      refine x_iload hX dL_law_2586 rfl ?_
      refine x_i2l hX dL_law_2588 ?_
      refine x_lcmp hX dL_law_2589 ?_
      refine x_if_eq (tgt := 2595) hX dL_law_2590 (by decide) rfl (fun hc => ?_) (fun hc => ?_)
      · replace h := (if_pos hc).symm.trans h
        refine x_goto (tgt := 3147) hX dL_law_2595 (by decide) ?_
        cases h
        exact x_wid (k2 := k + 5) (n2 := n + 30) (Nat.add_le_add_left (Nat.le_of_ble_eq_true rfl : 2 ≤ 5) _) (Nat.add_le_add_left (Nat.le_of_ble_eq_true rfl : 12 ≤ 30) _) (x_weak [true, true, true, true, true, false, false] rfl hE)
      · replace h := (if_neg hc).symm.trans h
        refine x_iconst hX dL_law_2593 ?_
        cases h
    · replace h := (if_neg hc).symm.trans h
      refine x_goto (tgt := 3147) hX dL_law_2595 (by decide) ?_
      cases h
      exact x_wid (k2 := k + 5) (n2 := n + 30) (Nat.add_le_add_left (Nat.le_of_ble_eq_true rfl : 2 ≤ 5) _) (Nat.add_le_add_left (Nat.le_of_ble_eq_true rfl : 12 ≤ 30) _) (x_weak [true, true, true, true, true, false, false] rfl hE)
  · replace h := (if_neg hc).symm.trans h
    refine x_iconst hX dL_law_2576 ?_
    cases h

set_option maxRecDepth 100000 in
set_option maxHeartbeats 4000000 in
theorem law_41 {X : Cxt} (hX : Gd X RL cL_law 7 (some .boolean) 40) (hs : SOK (xG X)) (h3 : at_ (xG X) 157 4 1) {b Lx : Nat} {sx : Nat → Int} (hx : SX X b Lx sx) (x4 p1 p2 p3 p4 : Int) (b1 : inb (x4 + 1) Lx) (b2 : inb (x4 + 2) Lx) (b3 : inb (x4 + 3) Lx) (b4 : inb (x4 + 4) Lx) (e1 : sx (ix (x4 + 1)) = p1) (e2 : sx (ix (x4 + 2)) = p2) (e3 : sx (ix (x4 + 3)) = p3) (e4 : sx (ix (x4 + 4)) = p4) {k n : Nat} (hk : k + 5 ≤ (xR X).cells ∧ n + 30 ≤ (xR X).slots) {Q : State → Prop} (M Mr : Mem) (h : L_41 p1 p2 p3 p4 M = some Mr) (hE : V X (k + 5) (n + 30) Q 3147 [some (.ref b), some (vr (xG X) 0), some (vr (xG X) 139), some (vr (xG X) 157), some (vi x4), none, none] [] Mr) : V X k n Q 2598 [some (.ref b), some (vr (xG X) 0), some (vr (xG X) 139), some (vr (xG X) 157), some (vi x4), none, none] [] M := by
  unfold L_41 at h
  refine x_aloadn hX dL_law_2598 rfl ?_
  obtain ⟨r_1, M_2, er_1, h⟩ := cl2_of h
  refine x_callVi (t := 10) (As := []) (rest := []) hX dL_law_2599 (c_X11_lateOrders (gk hX) (gl hX) hs  M _ _ er_1) kX11_lateOrders vX11_lateOrders w_698 (st0 hs) rfl rfl rfl rfl (Nat.le_of_ble_eq_true rfl) ⟨Nat.le_trans (Nat.add_le_add_left (Nat.le_of_ble_eq_true rfl : 0 ≤ 5) _) hk.1, Nat.le_trans (Nat.add_le_add_left (Nat.le_of_ble_eq_true rfl : 0 ≤ 30) _) hk.2⟩ ?_
  refine x_aloadn hX dL_law_2602 rfl ?_
  obtain ⟨r_3, M_4, er_3, h⟩ := cl2_of h
  refine x_callVi (t := 11) (As := []) (rest := [vi r_1]) hX dL_law_2603 (c_X12_lateOrders (gk hX) (gl hX) hs  M_2 _ _ er_3) kX12_lateOrders vX12_lateOrders w_2162 (st139 hs) rfl rfl rfl rfl (Nat.le_of_ble_eq_true rfl) ⟨Nat.le_trans (Nat.add_le_add_left (Nat.le_of_ble_eq_true rfl : 0 ≤ 5) _) hk.1, Nat.le_trans (Nat.add_le_add_left (Nat.le_of_ble_eq_true rfl : 0 ≤ 30) _) hk.2⟩ ?_
  refine x_icmp_eq (tgt := 3147) hX dL_law_2606 (by decide) rfl rfl (fun hc => ?_) (fun hc => ?_)
  · replace h := (if_pos hc).symm.trans h
    cases h
    exact x_wid (k2 := k + 5) (n2 := n + 30) (Nat.add_le_add_left (Nat.le_of_ble_eq_true rfl : 0 ≤ 5) _) (Nat.add_le_add_left (Nat.le_of_ble_eq_true rfl : 0 ≤ 30) _) (x_weak [true, true, true, true, true, false, false] rfl hE)
  · replace h := (if_neg hc).symm.trans h
    refine x_iconst hX dL_law_2609 ?_
    cases h

set_option maxRecDepth 100000 in
set_option maxHeartbeats 4000000 in
theorem law_42 {X : Cxt} (hX : Gd X RL cL_law 7 (some .boolean) 40) (hs : SOK (xG X)) (h3 : at_ (xG X) 157 4 1) {b Lx : Nat} {sx : Nat → Int} (hx : SX X b Lx sx) (x4 p1 p2 p3 p4 : Int) (b1 : inb (x4 + 1) Lx) (b2 : inb (x4 + 2) Lx) (b3 : inb (x4 + 3) Lx) (b4 : inb (x4 + 4) Lx) (e1 : sx (ix (x4 + 1)) = p1) (e2 : sx (ix (x4 + 2)) = p2) (e3 : sx (ix (x4 + 3)) = p3) (e4 : sx (ix (x4 + 4)) = p4) {k n : Nat} (hk : k + 5 ≤ (xR X).cells ∧ n + 30 ≤ (xR X).slots) {Q : State → Prop} (M Mr : Mem) (h : L_42 p1 p2 p3 p4 M = some Mr) (hE : V X (k + 5) (n + 30) Q 3147 [some (.ref b), some (vr (xG X) 0), some (vr (xG X) 139), some (vr (xG X) 157), some (vi x4), none, none] [] Mr) : V X k n Q 2611 [some (.ref b), some (vr (xG X) 0), some (vr (xG X) 139), some (vr (xG X) 157), some (vi x4), none, none] [] M := by
  unfold L_42 at h
  refine x_aloadn hX dL_law_2611 rfl ?_
  obtain ⟨r_1, M_2, er_1, h⟩ := cl2_of h
  refine x_callVi (t := 10) (As := []) (rest := []) hX dL_law_2612 (c_X11_totalTardiness (gk hX) (gl hX) hs  M _ _ er_1) kX11_totalTardiness vX11_totalTardiness w_706 (st0 hs) rfl rfl rfl rfl (Nat.le_of_ble_eq_true rfl) ⟨Nat.le_trans (Nat.add_le_add_left (Nat.le_of_ble_eq_true rfl : 0 ≤ 5) _) hk.1, Nat.le_trans (Nat.add_le_add_left (Nat.le_of_ble_eq_true rfl : 0 ≤ 30) _) hk.2⟩ ?_
  refine x_aloadn hX dL_law_2615 rfl ?_
  obtain ⟨r_3, M_4, er_3, h⟩ := cl2_of h
  refine x_callVi (t := 11) (As := []) (rest := [vi r_1]) hX dL_law_2616 (c_X12_totalTardiness (gk hX) (gl hX) hs  M_2 _ _ er_3) kX12_totalTardiness vX12_totalTardiness w_2166 (st139 hs) rfl rfl rfl rfl (Nat.le_of_ble_eq_true rfl) ⟨Nat.le_trans (Nat.add_le_add_left (Nat.le_of_ble_eq_true rfl : 0 ≤ 5) _) hk.1, Nat.le_trans (Nat.add_le_add_left (Nat.le_of_ble_eq_true rfl : 0 ≤ 30) _) hk.2⟩ ?_
  refine x_icmp_eq (tgt := 3147) hX dL_law_2619 (by decide) rfl rfl (fun hc => ?_) (fun hc => ?_)
  · replace h := (if_pos hc).symm.trans h
    cases h
    exact x_wid (k2 := k + 5) (n2 := n + 30) (Nat.add_le_add_left (Nat.le_of_ble_eq_true rfl : 0 ≤ 5) _) (Nat.add_le_add_left (Nat.le_of_ble_eq_true rfl : 0 ≤ 30) _) (x_weak [true, true, true, true, true, false, false] rfl hE)
  · replace h := (if_neg hc).symm.trans h
    refine x_iconst hX dL_law_2622 ?_
    cases h

set_option maxRecDepth 100000 in
set_option maxHeartbeats 4000000 in
theorem law_43 {X : Cxt} (hX : Gd X RL cL_law 7 (some .boolean) 40) (hs : SOK (xG X)) (h3 : at_ (xG X) 157 4 1) {b Lx : Nat} {sx : Nat → Int} (hx : SX X b Lx sx) (x4 p1 p2 p3 p4 : Int) (b1 : inb (x4 + 1) Lx) (b2 : inb (x4 + 2) Lx) (b3 : inb (x4 + 3) Lx) (b4 : inb (x4 + 4) Lx) (e1 : sx (ix (x4 + 1)) = p1) (e2 : sx (ix (x4 + 2)) = p2) (e3 : sx (ix (x4 + 3)) = p3) (e4 : sx (ix (x4 + 4)) = p4) {k n : Nat} (hk : k + 5 ≤ (xR X).cells ∧ n + 30 ≤ (xR X).slots) {Q : State → Prop} (M Mr : Mem) (h : L_43 p1 p2 p3 p4 M = some Mr) (hE : V X (k + 5) (n + 30) Q 3147 [some (.ref b), some (vr (xG X) 0), some (vr (xG X) 139), some (vr (xG X) 157), some (vi x4), none, none] [] Mr) : V X k n Q 2624 [some (.ref b), some (vr (xG X) 0), some (vr (xG X) 139), some (vr (xG X) 157), some (vi x4), none, none] [] M := by
  unfold L_43 at h
  refine x_aloadn hX dL_law_2624 rfl ?_
  obtain ⟨r_1, M_2, er_1, h⟩ := cl2_of h
  refine x_callVi (t := 10) (As := []) (rest := []) hX dL_law_2625 (c_X11_meanTardinessNumerator (gk hX) (gl hX) hs  M _ _ er_1) kX11_meanTardinessNumerator vX11_meanTardinessNumerator w_719 (st0 hs) rfl rfl rfl rfl (Nat.le_of_ble_eq_true rfl) ⟨Nat.le_trans (Nat.add_le_add_left (Nat.le_of_ble_eq_true rfl : 0 ≤ 5) _) hk.1, Nat.le_trans (Nat.add_le_add_left (Nat.le_of_ble_eq_true rfl : 0 ≤ 30) _) hk.2⟩ ?_
  refine x_aloadn hX dL_law_2628 rfl ?_
  obtain ⟨r_3, M_4, er_3, h⟩ := cl2_of h
  refine x_callVi (t := 11) (As := []) (rest := [vi r_1]) hX dL_law_2629 (c_X12_meanTardinessNumerator (gk hX) (gl hX) hs  M_2 _ _ er_3) kX12_meanTardinessNumerator vX12_meanTardinessNumerator w_2174 (st139 hs) rfl rfl rfl rfl (Nat.le_of_ble_eq_true rfl) ⟨Nat.le_trans (Nat.add_le_add_left (Nat.le_of_ble_eq_true rfl : 0 ≤ 5) _) hk.1, Nat.le_trans (Nat.add_le_add_left (Nat.le_of_ble_eq_true rfl : 0 ≤ 30) _) hk.2⟩ ?_
  refine x_icmp_eq (tgt := 3147) hX dL_law_2632 (by decide) rfl rfl (fun hc => ?_) (fun hc => ?_)
  · replace h := (if_pos hc).symm.trans h
    cases h
    exact x_wid (k2 := k + 5) (n2 := n + 30) (Nat.add_le_add_left (Nat.le_of_ble_eq_true rfl : 0 ≤ 5) _) (Nat.add_le_add_left (Nat.le_of_ble_eq_true rfl : 0 ≤ 30) _) (x_weak [true, true, true, true, true, false, false] rfl hE)
  · replace h := (if_neg hc).symm.trans h
    refine x_iconst hX dL_law_2635 ?_
    cases h

set_option maxRecDepth 100000 in
set_option maxHeartbeats 4000000 in
theorem law_44 {X : Cxt} (hX : Gd X RL cL_law 7 (some .boolean) 40) (hs : SOK (xG X)) (h3 : at_ (xG X) 157 4 1) {b Lx : Nat} {sx : Nat → Int} (hx : SX X b Lx sx) (x4 p1 p2 p3 p4 : Int) (b1 : inb (x4 + 1) Lx) (b2 : inb (x4 + 2) Lx) (b3 : inb (x4 + 3) Lx) (b4 : inb (x4 + 4) Lx) (e1 : sx (ix (x4 + 1)) = p1) (e2 : sx (ix (x4 + 2)) = p2) (e3 : sx (ix (x4 + 3)) = p3) (e4 : sx (ix (x4 + 4)) = p4) {k n : Nat} (hk : k + 5 ≤ (xR X).cells ∧ n + 30 ≤ (xR X).slots) {Q : State → Prop} (M Mr : Mem) (h : L_44 p1 p2 p3 p4 M = some Mr) (hE : V X (k + 5) (n + 30) Q 3147 [some (.ref b), some (vr (xG X) 0), some (vr (xG X) 139), some (vr (xG X) 157), some (vi x4), none, none] [] Mr) : V X k n Q 2637 [some (.ref b), some (vr (xG X) 0), some (vr (xG X) 139), some (vr (xG X) 157), some (vi x4), none, none] [] M := by
  unfold L_44 at h
  refine x_aloadn hX dL_law_2637 rfl ?_
  obtain ⟨r_1, M_2, er_1, h⟩ := cl2_of h
  refine x_callVi (t := 10) (As := []) (rest := []) hX dL_law_2638 (c_X11_meanTardinessDenominator (gk hX) (gl hX) hs  M _ _ er_1) kX11_meanTardinessDenominator vX11_meanTardinessDenominator w_735 (st0 hs) rfl rfl rfl rfl (Nat.le_of_ble_eq_true rfl) ⟨Nat.le_trans (Nat.add_le_add_left (Nat.le_of_ble_eq_true rfl : 0 ≤ 5) _) hk.1, Nat.le_trans (Nat.add_le_add_left (Nat.le_of_ble_eq_true rfl : 0 ≤ 30) _) hk.2⟩ ?_
  refine x_aloadn hX dL_law_2641 rfl ?_
  obtain ⟨r_3, M_4, er_3, h⟩ := cl2_of h
  refine x_callVi (t := 11) (As := []) (rest := [vi r_1]) hX dL_law_2642 (c_X12_meanTardinessDenominator (gk hX) (gl hX) hs  M_2 _ _ er_3) kX12_meanTardinessDenominator vX12_meanTardinessDenominator w_2185 (st139 hs) rfl rfl rfl rfl (Nat.le_of_ble_eq_true rfl) ⟨Nat.le_trans (Nat.add_le_add_left (Nat.le_of_ble_eq_true rfl : 0 ≤ 5) _) hk.1, Nat.le_trans (Nat.add_le_add_left (Nat.le_of_ble_eq_true rfl : 0 ≤ 30) _) hk.2⟩ ?_
  refine x_icmp_eq (tgt := 3147) hX dL_law_2645 (by decide) rfl rfl (fun hc => ?_) (fun hc => ?_)
  · replace h := (if_pos hc).symm.trans h
    cases h
    exact x_wid (k2 := k + 5) (n2 := n + 30) (Nat.add_le_add_left (Nat.le_of_ble_eq_true rfl : 0 ≤ 5) _) (Nat.add_le_add_left (Nat.le_of_ble_eq_true rfl : 0 ≤ 30) _) (x_weak [true, true, true, true, true, false, false] rfl hE)
  · replace h := (if_neg hc).symm.trans h
    refine x_iconst hX dL_law_2648 ?_
    cases h

set_option maxRecDepth 100000 in
set_option maxHeartbeats 4000000 in
theorem law_45 {X : Cxt} (hX : Gd X RL cL_law 7 (some .boolean) 40) (hs : SOK (xG X)) (h3 : at_ (xG X) 157 4 1) {b Lx : Nat} {sx : Nat → Int} (hx : SX X b Lx sx) (x4 p1 p2 p3 p4 : Int) (b1 : inb (x4 + 1) Lx) (b2 : inb (x4 + 2) Lx) (b3 : inb (x4 + 3) Lx) (b4 : inb (x4 + 4) Lx) (e1 : sx (ix (x4 + 1)) = p1) (e2 : sx (ix (x4 + 2)) = p2) (e3 : sx (ix (x4 + 3)) = p3) (e4 : sx (ix (x4 + 4)) = p4) {k n : Nat} (hk : k + 5 ≤ (xR X).cells ∧ n + 30 ≤ (xR X).slots) {Q : State → Prop} (M Mr : Mem) (h : L_45 p1 p2 p3 p4 M = some Mr) (hE : V X (k + 5) (n + 30) Q 3147 [some (.ref b), some (vr (xG X) 0), some (vr (xG X) 139), some (vr (xG X) 157), some (vi x4), none, none] [] Mr) : V X k n Q 2650 [some (.ref b), some (vr (xG X) 0), some (vr (xG X) 139), some (vr (xG X) 157), some (vi x4), none, none] [] M := by
  unfold L_45 at h
  refine x_aloadn hX dL_law_2650 rfl ?_
  refine x_aloadn hX dL_law_2651 rfl ?_
  obtain ⟨r_1, M_2, er_1, h⟩ := cl2_of h
  refine x_wS (As := [vr (xG X) 0, vr (xG X) 157]) (rest := []) hX dL_law_2652 (c_L_pickBatch (gk hX) (gl hX) hs h3  M _ _ er_1) kL_pickBatch w_1533 rfl rfl rfl (Nat.le_of_ble_eq_true rfl) ⟨Nat.le_trans (Nat.add_le_add_left (Nat.le_of_ble_eq_true rfl : 1 ≤ 5) _) hk.1, Nat.le_trans (Nat.add_le_add_left (Nat.le_of_ble_eq_true rfl : 6 ≤ 30) _) hk.2⟩ ?_
  show V X (k + 1) (n + 6) Q 2655 [some (.ref b), some (vr (xG X) 0), some (vr (xG X) 139), some (vr (xG X) 157), some (vi x4), none, none] [vi r_1] M_2
  refine x_istore (ls' := [some (.ref b), some (vr (xG X) 0), some (vr (xG X) 139), some (vr (xG X) 157), some (vi x4), some (vi r_1), none]) hX dL_law_2655 rfl rfl rfl ?_
  refine x_aloadn hX dL_law_2657 rfl ?_
  obtain ⟨r_3, M_4, er_3, h⟩ := cl2_of h
  refine x_callVi (t := 11) (As := []) (rest := []) hX dL_law_2658 (c_X12_pickBatch (gk hX) (gl hX) hs  M_2 _ _ er_3) kX12_pickBatch vX12_pickBatch w_2217 (st139 hs) rfl rfl rfl rfl (Nat.le_of_ble_eq_true rfl) ⟨Nat.le_trans (Nat.add_le_add_left (Nat.le_of_ble_eq_true rfl : 1 ≤ 5) _) hk.1, Nat.le_trans (Nat.add_le_add_left (Nat.le_of_ble_eq_true rfl : 6 ≤ 30) _) hk.2⟩ ?_
  refine x_istore (ls' := [some (.ref b), some (vr (xG X) 0), some (vr (xG X) 139), some (vr (xG X) 157), some (vi x4), some (vi r_1), some (vi r_3)]) hX dL_law_2661 rfl rfl rfl ?_
  refine x_aloadn hX dL_law_2663 rfl ?_
  obtain ⟨r_5, er_5, h⟩ := cl1_of h
  refine x_callVi (t := 11) (As := []) (rest := []) hX dL_law_2664 (c_X12_thrown (gk hX) (gl hX) hs  M_4 _ er_5) kX12_thrown vX12_thrown w_1727 (st139 hs) rfl rfl rfl rfl (Nat.le_of_ble_eq_true rfl) ⟨Nat.le_trans (Nat.add_le_add_left (Nat.le_of_ble_eq_true rfl : 1 ≤ 5) _) hk.1, Nat.le_trans (Nat.add_le_add_left (Nat.le_of_ble_eq_true rfl : 6 ≤ 30) _) hk.2⟩ ?_
  refine x_iload hX dL_law_2667 rfl ?_
  refine x_icmp_eq (tgt := 2674) hX dL_law_2669 (by decide) rfl rfl (fun hc => ?_) (fun hc => ?_)
  · replace h := (if_pos hc).symm.trans h
    refine x_iload hX dL_law_2674 rfl ?_
    refine x_if_ne (tgt := 2691) hX dL_law_2676 (by decide) rfl (fun hc => ?_) (fun hc => ?_)
    · replace h := (if_pos hc).symm.trans h
      refine x_aloadn hX dL_law_2679 rfl ?_
      refine x_iconst hX dL_law_2680 ?_
      refine x_lald hX dL_law_2681 h3 inc_0_1 ixc_0 ?_
      refine x_iload hX dL_law_2682 rfl ?_
      refine x_i2l hX dL_law_2684 ?_
      refine x_lcmp hX dL_law_2685 ?_
      refine x_if_eq (tgt := 2691) hX dL_law_2686 (by decide) rfl (fun hc => ?_) (fun hc => ?_)
      · replace h := (if_pos hc).symm.trans h
        refine x_goto (tgt := 3147) hX dL_law_2691 (by decide) ?_
        cases h
        exact x_wid (k2 := k + 5) (n2 := n + 30) (Nat.add_le_add_left (Nat.le_of_ble_eq_true rfl : 1 ≤ 5) _) (Nat.add_le_add_left (Nat.le_of_ble_eq_true rfl : 6 ≤ 30) _) (x_weak [true, true, true, true, true, false, false] rfl hE)
      · replace h := (if_neg hc).symm.trans h
        refine x_iconst hX dL_law_2689 ?_
        cases h
    · replace h := (if_neg hc).symm.trans h
      refine x_goto (tgt := 3147) hX dL_law_2691 (by decide) ?_
      cases h
      exact x_wid (k2 := k + 5) (n2 := n + 30) (Nat.add_le_add_left (Nat.le_of_ble_eq_true rfl : 1 ≤ 5) _) (Nat.add_le_add_left (Nat.le_of_ble_eq_true rfl : 6 ≤ 30) _) (x_weak [true, true, true, true, true, false, false] rfl hE)
  · replace h := (if_neg hc).symm.trans h
    refine x_iconst hX dL_law_2672 ?_
    cases h

set_option maxRecDepth 100000 in
set_option maxHeartbeats 4000000 in
theorem law_46 {X : Cxt} (hX : Gd X RL cL_law 7 (some .boolean) 40) (hs : SOK (xG X)) (h3 : at_ (xG X) 157 4 1) {b Lx : Nat} {sx : Nat → Int} (hx : SX X b Lx sx) (x4 p1 p2 p3 p4 : Int) (b1 : inb (x4 + 1) Lx) (b2 : inb (x4 + 2) Lx) (b3 : inb (x4 + 3) Lx) (b4 : inb (x4 + 4) Lx) (e1 : sx (ix (x4 + 1)) = p1) (e2 : sx (ix (x4 + 2)) = p2) (e3 : sx (ix (x4 + 3)) = p3) (e4 : sx (ix (x4 + 4)) = p4) {k n : Nat} (hk : k + 5 ≤ (xR X).cells ∧ n + 30 ≤ (xR X).slots) {Q : State → Prop} (M Mr : Mem) (h : L_46 p1 p2 p3 p4 M = some Mr) (hE : V X (k + 5) (n + 30) Q 3147 [some (.ref b), some (vr (xG X) 0), some (vr (xG X) 139), some (vr (xG X) 157), some (vi x4), none, none] [] Mr) : V X k n Q 2694 [some (.ref b), some (vr (xG X) 0), some (vr (xG X) 139), some (vr (xG X) 157), some (vi x4), none, none] [] M := by
  unfold L_46 at h
  refine x_aloadn hX dL_law_2694 rfl ?_
  refine x_qload hX dL_law_2695 rfl ?_
  refine x_iload hX dL_law_2696 rfl ?_
  refine x_iconst hX dL_law_2698 ?_
  refine x_iadd hX dL_law_2699 ?_
  refine x_sld hX hx dL_law_2700 b1 e1 ?_
  refine x_qload hX dL_law_2701 rfl ?_
  refine x_iload hX dL_law_2702 rfl ?_
  refine x_iconst hX dL_law_2704 ?_
  refine x_iadd hX dL_law_2705 ?_
  refine x_sld hX hx dL_law_2706 b2 e2 ?_
  refine x_aloadn hX dL_law_2707 rfl ?_
  obtain ⟨r_1, M_2, er_1, h⟩ := cl2_of h
  refine x_wS (As := [vr (xG X) 0, vi p1, vi p2, vr (xG X) 157]) (rest := []) hX dL_law_2708 (c_L_pickedUnits (gk hX) (gl hX) hs h3 p1 p2 M _ _ er_1) kL_pickedUnits w_1550 rfl rfl rfl (Nat.le_of_ble_eq_true rfl) ⟨Nat.le_trans (Nat.add_le_add_left (Nat.le_of_ble_eq_true rfl : 2 ≤ 5) _) hk.1, Nat.le_trans (Nat.add_le_add_left (Nat.le_of_ble_eq_true rfl : 12 ≤ 30) _) hk.2⟩ ?_
  show V X (k + 2) (n + 12) Q 2711 [some (.ref b), some (vr (xG X) 0), some (vr (xG X) 139), some (vr (xG X) 157), some (vi x4), none, none] [vi r_1] M_2
  refine x_istore (ls' := [some (.ref b), some (vr (xG X) 0), some (vr (xG X) 139), some (vr (xG X) 157), some (vi x4), some (vi r_1), none]) hX dL_law_2711 rfl rfl rfl ?_
  refine x_aloadn hX dL_law_2713 rfl ?_
  refine x_qload hX dL_law_2714 rfl ?_
  refine x_iload hX dL_law_2715 rfl ?_
  refine x_iconst hX dL_law_2717 ?_
  refine x_iadd hX dL_law_2718 ?_
  refine x_sld hX hx dL_law_2719 b1 e1 ?_
  refine x_qload hX dL_law_2720 rfl ?_
  refine x_iload hX dL_law_2721 rfl ?_
  refine x_iconst hX dL_law_2723 ?_
  refine x_iadd hX dL_law_2724 ?_
  refine x_sld hX hx dL_law_2725 b2 e2 ?_
  obtain ⟨r_3, M_4, er_3, h⟩ := cl2_of h
  refine x_callVi (t := 11) (As := [vi p1, vi p2]) (rest := []) hX dL_law_2726 (c_X12_pickedUnits (gk hX) (gl hX) hs p1 p2 M_2 _ _ er_3) kX12_pickedUnits vX12_pickedUnits w_2225 (st139 hs) rfl rfl rfl rfl (Nat.le_of_ble_eq_true rfl) ⟨Nat.le_trans (Nat.add_le_add_left (Nat.le_of_ble_eq_true rfl : 2 ≤ 5) _) hk.1, Nat.le_trans (Nat.add_le_add_left (Nat.le_of_ble_eq_true rfl : 12 ≤ 30) _) hk.2⟩ ?_
  refine x_istore (ls' := [some (.ref b), some (vr (xG X) 0), some (vr (xG X) 139), some (vr (xG X) 157), some (vi x4), some (vi r_1), some (vi r_3)]) hX dL_law_2729 rfl rfl rfl ?_
  refine x_aloadn hX dL_law_2731 rfl ?_
  obtain ⟨r_5, er_5, h⟩ := cl1_of h
  refine x_callVi (t := 11) (As := []) (rest := []) hX dL_law_2732 (c_X12_thrown (gk hX) (gl hX) hs  M_4 _ er_5) kX12_thrown vX12_thrown w_1727 (st139 hs) rfl rfl rfl rfl (Nat.le_of_ble_eq_true rfl) ⟨Nat.le_trans (Nat.add_le_add_left (Nat.le_of_ble_eq_true rfl : 2 ≤ 5) _) hk.1, Nat.le_trans (Nat.add_le_add_left (Nat.le_of_ble_eq_true rfl : 12 ≤ 30) _) hk.2⟩ ?_
  refine x_iload hX dL_law_2735 rfl ?_
  refine x_icmp_eq (tgt := 2742) hX dL_law_2737 (by decide) rfl rfl (fun hc => ?_) (fun hc => ?_)
  · replace h := (if_pos hc).symm.trans h
    refine x_iload hX dL_law_2742 rfl ?_
    refine x_if_ne (tgt := 2759) hX dL_law_2744 (by decide) rfl (fun hc => ?_) (fun hc => ?_)
    · replace h := (if_pos hc).symm.trans h
      refine x_aloadn hX dL_law_2747 rfl ?_
      refine x_iconst hX dL_law_2748 ?_
      refine x_lald hX dL_law_2749 h3 inc_0_1 ixc_0 ?_
      refine x_iload hX dL_law_2750 rfl ?_
      refine x_i2l hX dL_law_2752 ?_
      refine x_lcmp hX dL_law_2753 ?_
      refine x_if_eq (tgt := 2759) hX dL_law_2754 (by decide) rfl (fun hc => ?_) (fun hc => ?_)
      · replace h := (if_pos hc).symm.trans h
        refine x_goto (tgt := 3147) hX dL_law_2759 (by decide) ?_
        cases h
        exact x_wid (k2 := k + 5) (n2 := n + 30) (Nat.add_le_add_left (Nat.le_of_ble_eq_true rfl : 2 ≤ 5) _) (Nat.add_le_add_left (Nat.le_of_ble_eq_true rfl : 12 ≤ 30) _) (x_weak [true, true, true, true, true, false, false] rfl hE)
      · replace h := (if_neg hc).symm.trans h
        refine x_iconst hX dL_law_2757 ?_
        cases h
    · replace h := (if_neg hc).symm.trans h
      refine x_goto (tgt := 3147) hX dL_law_2759 (by decide) ?_
      cases h
      exact x_wid (k2 := k + 5) (n2 := n + 30) (Nat.add_le_add_left (Nat.le_of_ble_eq_true rfl : 2 ≤ 5) _) (Nat.add_le_add_left (Nat.le_of_ble_eq_true rfl : 12 ≤ 30) _) (x_weak [true, true, true, true, true, false, false] rfl hE)
  · replace h := (if_neg hc).symm.trans h
    refine x_iconst hX dL_law_2740 ?_
    cases h

set_option maxRecDepth 100000 in
set_option maxHeartbeats 4000000 in
theorem law_47 {X : Cxt} (hX : Gd X RL cL_law 7 (some .boolean) 40) (hs : SOK (xG X)) (h3 : at_ (xG X) 157 4 1) {b Lx : Nat} {sx : Nat → Int} (hx : SX X b Lx sx) (x4 p1 p2 p3 p4 : Int) (b1 : inb (x4 + 1) Lx) (b2 : inb (x4 + 2) Lx) (b3 : inb (x4 + 3) Lx) (b4 : inb (x4 + 4) Lx) (e1 : sx (ix (x4 + 1)) = p1) (e2 : sx (ix (x4 + 2)) = p2) (e3 : sx (ix (x4 + 3)) = p3) (e4 : sx (ix (x4 + 4)) = p4) {k n : Nat} (hk : k + 5 ≤ (xR X).cells ∧ n + 30 ≤ (xR X).slots) {Q : State → Prop} (M Mr : Mem) (h : L_47 p1 p2 p3 p4 M = some Mr) (hE : V X (k + 5) (n + 30) Q 3147 [some (.ref b), some (vr (xG X) 0), some (vr (xG X) 139), some (vr (xG X) 157), some (vi x4), none, none] [] Mr) : V X k n Q 2762 [some (.ref b), some (vr (xG X) 0), some (vr (xG X) 139), some (vr (xG X) 157), some (vi x4), none, none] [] M := by
  unfold L_47 at h
  refine x_aloadn hX dL_law_2762 rfl ?_
  refine x_qload hX dL_law_2763 rfl ?_
  refine x_iload hX dL_law_2764 rfl ?_
  refine x_iconst hX dL_law_2766 ?_
  refine x_iadd hX dL_law_2767 ?_
  refine x_sld hX hx dL_law_2768 b1 e1 ?_
  refine x_qload hX dL_law_2769 rfl ?_
  refine x_iload hX dL_law_2770 rfl ?_
  refine x_iconst hX dL_law_2772 ?_
  refine x_iadd hX dL_law_2773 ?_
  refine x_sld hX hx dL_law_2774 b2 e2 ?_
  refine x_aloadn hX dL_law_2775 rfl ?_
  obtain ⟨r_1, M_2, er_1, h⟩ := cl2_of h
  refine x_wS (As := [vr (xG X) 0, vi p1, vi p2, vr (xG X) 157]) (rest := []) hX dL_law_2776 (c_L_shortUnits (gk hX) (gl hX) hs h3 p1 p2 M _ _ er_1) kL_shortUnits w_1562 rfl rfl rfl (Nat.le_of_ble_eq_true rfl) ⟨Nat.le_trans (Nat.add_le_add_left (Nat.le_of_ble_eq_true rfl : 2 ≤ 5) _) hk.1, Nat.le_trans (Nat.add_le_add_left (Nat.le_of_ble_eq_true rfl : 12 ≤ 30) _) hk.2⟩ ?_
  show V X (k + 2) (n + 12) Q 2779 [some (.ref b), some (vr (xG X) 0), some (vr (xG X) 139), some (vr (xG X) 157), some (vi x4), none, none] [vi r_1] M_2
  refine x_istore (ls' := [some (.ref b), some (vr (xG X) 0), some (vr (xG X) 139), some (vr (xG X) 157), some (vi x4), some (vi r_1), none]) hX dL_law_2779 rfl rfl rfl ?_
  refine x_aloadn hX dL_law_2781 rfl ?_
  refine x_qload hX dL_law_2782 rfl ?_
  refine x_iload hX dL_law_2783 rfl ?_
  refine x_iconst hX dL_law_2785 ?_
  refine x_iadd hX dL_law_2786 ?_
  refine x_sld hX hx dL_law_2787 b1 e1 ?_
  refine x_qload hX dL_law_2788 rfl ?_
  refine x_iload hX dL_law_2789 rfl ?_
  refine x_iconst hX dL_law_2791 ?_
  refine x_iadd hX dL_law_2792 ?_
  refine x_sld hX hx dL_law_2793 b2 e2 ?_
  obtain ⟨r_3, M_4, er_3, h⟩ := cl2_of h
  refine x_callVi (t := 11) (As := [vi p1, vi p2]) (rest := []) hX dL_law_2794 (c_X12_shortUnits (gk hX) (gl hX) hs p1 p2 M_2 _ _ er_3) kX12_shortUnits vX12_shortUnits w_2233 (st139 hs) rfl rfl rfl rfl (Nat.le_of_ble_eq_true rfl) ⟨Nat.le_trans (Nat.add_le_add_left (Nat.le_of_ble_eq_true rfl : 2 ≤ 5) _) hk.1, Nat.le_trans (Nat.add_le_add_left (Nat.le_of_ble_eq_true rfl : 12 ≤ 30) _) hk.2⟩ ?_
  refine x_istore (ls' := [some (.ref b), some (vr (xG X) 0), some (vr (xG X) 139), some (vr (xG X) 157), some (vi x4), some (vi r_1), some (vi r_3)]) hX dL_law_2797 rfl rfl rfl ?_
  refine x_aloadn hX dL_law_2799 rfl ?_
  obtain ⟨r_5, er_5, h⟩ := cl1_of h
  refine x_callVi (t := 11) (As := []) (rest := []) hX dL_law_2800 (c_X12_thrown (gk hX) (gl hX) hs  M_4 _ er_5) kX12_thrown vX12_thrown w_1727 (st139 hs) rfl rfl rfl rfl (Nat.le_of_ble_eq_true rfl) ⟨Nat.le_trans (Nat.add_le_add_left (Nat.le_of_ble_eq_true rfl : 2 ≤ 5) _) hk.1, Nat.le_trans (Nat.add_le_add_left (Nat.le_of_ble_eq_true rfl : 12 ≤ 30) _) hk.2⟩ ?_
  refine x_iload hX dL_law_2803 rfl ?_
  refine x_icmp_eq (tgt := 2810) hX dL_law_2805 (by decide) rfl rfl (fun hc => ?_) (fun hc => ?_)
  · replace h := (if_pos hc).symm.trans h
    refine x_iload hX dL_law_2810 rfl ?_
    refine x_if_ne (tgt := 2827) hX dL_law_2812 (by decide) rfl (fun hc => ?_) (fun hc => ?_)
    · replace h := (if_pos hc).symm.trans h
      refine x_aloadn hX dL_law_2815 rfl ?_
      refine x_iconst hX dL_law_2816 ?_
      refine x_lald hX dL_law_2817 h3 inc_0_1 ixc_0 ?_
      refine x_iload hX dL_law_2818 rfl ?_
      refine x_i2l hX dL_law_2820 ?_
      refine x_lcmp hX dL_law_2821 ?_
      refine x_if_eq (tgt := 2827) hX dL_law_2822 (by decide) rfl (fun hc => ?_) (fun hc => ?_)
      · replace h := (if_pos hc).symm.trans h
        refine x_goto (tgt := 3147) hX dL_law_2827 (by decide) ?_
        cases h
        exact x_wid (k2 := k + 5) (n2 := n + 30) (Nat.add_le_add_left (Nat.le_of_ble_eq_true rfl : 2 ≤ 5) _) (Nat.add_le_add_left (Nat.le_of_ble_eq_true rfl : 12 ≤ 30) _) (x_weak [true, true, true, true, true, false, false] rfl hE)
      · replace h := (if_neg hc).symm.trans h
        refine x_iconst hX dL_law_2825 ?_
        cases h
    · replace h := (if_neg hc).symm.trans h
      refine x_goto (tgt := 3147) hX dL_law_2827 (by decide) ?_
      cases h
      exact x_wid (k2 := k + 5) (n2 := n + 30) (Nat.add_le_add_left (Nat.le_of_ble_eq_true rfl : 2 ≤ 5) _) (Nat.add_le_add_left (Nat.le_of_ble_eq_true rfl : 12 ≤ 30) _) (x_weak [true, true, true, true, true, false, false] rfl hE)
  · replace h := (if_neg hc).symm.trans h
    refine x_iconst hX dL_law_2808 ?_
    cases h

set_option maxRecDepth 100000 in
set_option maxHeartbeats 4000000 in
theorem law_48 {X : Cxt} (hX : Gd X RL cL_law 7 (some .boolean) 40) (hs : SOK (xG X)) (h3 : at_ (xG X) 157 4 1) {b Lx : Nat} {sx : Nat → Int} (hx : SX X b Lx sx) (x4 p1 p2 p3 p4 : Int) (b1 : inb (x4 + 1) Lx) (b2 : inb (x4 + 2) Lx) (b3 : inb (x4 + 3) Lx) (b4 : inb (x4 + 4) Lx) (e1 : sx (ix (x4 + 1)) = p1) (e2 : sx (ix (x4 + 2)) = p2) (e3 : sx (ix (x4 + 3)) = p3) (e4 : sx (ix (x4 + 4)) = p4) {k n : Nat} (hk : k + 5 ≤ (xR X).cells ∧ n + 30 ≤ (xR X).slots) {Q : State → Prop} (M Mr : Mem) (h : L_48 p1 p2 p3 p4 M = some Mr) (hE : V X (k + 5) (n + 30) Q 3147 [some (.ref b), some (vr (xG X) 0), some (vr (xG X) 139), some (vr (xG X) 157), some (vi x4), none, none] [] Mr) : V X k n Q 2830 [some (.ref b), some (vr (xG X) 0), some (vr (xG X) 139), some (vr (xG X) 157), some (vi x4), none, none] [] M := by
  unfold L_48 at h
  refine x_aloadn hX dL_law_2830 rfl ?_
  obtain ⟨r_1, er_1, h⟩ := cl1_of h
  refine x_callVi (t := 10) (As := []) (rest := []) hX dL_law_2831 (c_X11_totalOrdered (gk hX) (gl hX) hs  M _ er_1) kX11_totalOrdered vX11_totalOrdered w_739 (st0 hs) rfl rfl rfl rfl (Nat.le_of_ble_eq_true rfl) ⟨Nat.le_trans (Nat.add_le_add_left (Nat.le_of_ble_eq_true rfl : 0 ≤ 5) _) hk.1, Nat.le_trans (Nat.add_le_add_left (Nat.le_of_ble_eq_true rfl : 0 ≤ 30) _) hk.2⟩ ?_
  refine x_aloadn hX dL_law_2834 rfl ?_
  obtain ⟨r_3, M_4, er_3, h⟩ := cl2_of h
  refine x_callVi (t := 11) (As := []) (rest := [vi r_1]) hX dL_law_2835 (c_X12_totalOrdered (gk hX) (gl hX) hs  M _ _ er_3) kX12_totalOrdered vX12_totalOrdered w_2237 (st139 hs) rfl rfl rfl rfl (Nat.le_of_ble_eq_true rfl) ⟨Nat.le_trans (Nat.add_le_add_left (Nat.le_of_ble_eq_true rfl : 0 ≤ 5) _) hk.1, Nat.le_trans (Nat.add_le_add_left (Nat.le_of_ble_eq_true rfl : 0 ≤ 30) _) hk.2⟩ ?_
  refine x_icmp_eq (tgt := 3147) hX dL_law_2838 (by decide) rfl rfl (fun hc => ?_) (fun hc => ?_)
  · replace h := (if_pos hc).symm.trans h
    cases h
    exact x_wid (k2 := k + 5) (n2 := n + 30) (Nat.add_le_add_left (Nat.le_of_ble_eq_true rfl : 0 ≤ 5) _) (Nat.add_le_add_left (Nat.le_of_ble_eq_true rfl : 0 ≤ 30) _) (x_weak [true, true, true, true, true, false, false] rfl hE)
  · replace h := (if_neg hc).symm.trans h
    refine x_iconst hX dL_law_2841 ?_
    cases h

set_option maxRecDepth 100000 in
set_option maxHeartbeats 4000000 in
theorem law_49 {X : Cxt} (hX : Gd X RL cL_law 7 (some .boolean) 40) (hs : SOK (xG X)) (h3 : at_ (xG X) 157 4 1) {b Lx : Nat} {sx : Nat → Int} (hx : SX X b Lx sx) (x4 p1 p2 p3 p4 : Int) (b1 : inb (x4 + 1) Lx) (b2 : inb (x4 + 2) Lx) (b3 : inb (x4 + 3) Lx) (b4 : inb (x4 + 4) Lx) (e1 : sx (ix (x4 + 1)) = p1) (e2 : sx (ix (x4 + 2)) = p2) (e3 : sx (ix (x4 + 3)) = p3) (e4 : sx (ix (x4 + 4)) = p4) {k n : Nat} (hk : k + 5 ≤ (xR X).cells ∧ n + 30 ≤ (xR X).slots) {Q : State → Prop} (M Mr : Mem) (h : L_49 p1 p2 p3 p4 M = some Mr) (hE : V X (k + 5) (n + 30) Q 3147 [some (.ref b), some (vr (xG X) 0), some (vr (xG X) 139), some (vr (xG X) 157), some (vi x4), none, none] [] Mr) : V X k n Q 2843 [some (.ref b), some (vr (xG X) 0), some (vr (xG X) 139), some (vr (xG X) 157), some (vi x4), none, none] [] M := by
  unfold L_49 at h
  refine x_aloadn hX dL_law_2843 rfl ?_
  obtain ⟨r_1, er_1, h⟩ := cl1_of h
  refine x_callVi (t := 10) (As := []) (rest := []) hX dL_law_2844 (c_X11_totalPicked (gk hX) (gl hX) hs  M _ er_1) kX11_totalPicked vX11_totalPicked w_763 (st0 hs) rfl rfl rfl rfl (Nat.le_of_ble_eq_true rfl) ⟨Nat.le_trans (Nat.add_le_add_left (Nat.le_of_ble_eq_true rfl : 0 ≤ 5) _) hk.1, Nat.le_trans (Nat.add_le_add_left (Nat.le_of_ble_eq_true rfl : 0 ≤ 30) _) hk.2⟩ ?_
  refine x_aloadn hX dL_law_2847 rfl ?_
  obtain ⟨r_3, M_4, er_3, h⟩ := cl2_of h
  refine x_callVi (t := 11) (As := []) (rest := [vi r_1]) hX dL_law_2848 (c_X12_totalPicked (gk hX) (gl hX) hs  M _ _ er_3) kX12_totalPicked vX12_totalPicked w_2245 (st139 hs) rfl rfl rfl rfl (Nat.le_of_ble_eq_true rfl) ⟨Nat.le_trans (Nat.add_le_add_left (Nat.le_of_ble_eq_true rfl : 0 ≤ 5) _) hk.1, Nat.le_trans (Nat.add_le_add_left (Nat.le_of_ble_eq_true rfl : 0 ≤ 30) _) hk.2⟩ ?_
  refine x_icmp_eq (tgt := 3147) hX dL_law_2851 (by decide) rfl rfl (fun hc => ?_) (fun hc => ?_)
  · replace h := (if_pos hc).symm.trans h
    cases h
    exact x_wid (k2 := k + 5) (n2 := n + 30) (Nat.add_le_add_left (Nat.le_of_ble_eq_true rfl : 0 ≤ 5) _) (Nat.add_le_add_left (Nat.le_of_ble_eq_true rfl : 0 ≤ 30) _) (x_weak [true, true, true, true, true, false, false] rfl hE)
  · replace h := (if_neg hc).symm.trans h
    refine x_iconst hX dL_law_2854 ?_
    cases h

set_option maxRecDepth 100000 in
set_option maxHeartbeats 4000000 in
theorem law_50 {X : Cxt} (hX : Gd X RL cL_law 7 (some .boolean) 40) (hs : SOK (xG X)) (h3 : at_ (xG X) 157 4 1) {b Lx : Nat} {sx : Nat → Int} (hx : SX X b Lx sx) (x4 p1 p2 p3 p4 : Int) (b1 : inb (x4 + 1) Lx) (b2 : inb (x4 + 2) Lx) (b3 : inb (x4 + 3) Lx) (b4 : inb (x4 + 4) Lx) (e1 : sx (ix (x4 + 1)) = p1) (e2 : sx (ix (x4 + 2)) = p2) (e3 : sx (ix (x4 + 3)) = p3) (e4 : sx (ix (x4 + 4)) = p4) {k n : Nat} (hk : k + 5 ≤ (xR X).cells ∧ n + 30 ≤ (xR X).slots) {Q : State → Prop} (M Mr : Mem) (h : L_50 p1 p2 p3 p4 M = some Mr) (hE : V X (k + 5) (n + 30) Q 3147 [some (.ref b), some (vr (xG X) 0), some (vr (xG X) 139), some (vr (xG X) 157), some (vi x4), none, none] [] Mr) : V X k n Q 2856 [some (.ref b), some (vr (xG X) 0), some (vr (xG X) 139), some (vr (xG X) 157), some (vi x4), none, none] [] M := by
  unfold L_50 at h
  refine x_aloadn hX dL_law_2856 rfl ?_
  refine x_qload hX dL_law_2857 rfl ?_
  refine x_iload hX dL_law_2858 rfl ?_
  refine x_iconst hX dL_law_2860 ?_
  refine x_iadd hX dL_law_2861 ?_
  refine x_sld hX hx dL_law_2862 b1 e1 ?_
  refine x_qload hX dL_law_2863 rfl ?_
  refine x_iload hX dL_law_2864 rfl ?_
  refine x_iconst hX dL_law_2866 ?_
  refine x_iadd hX dL_law_2867 ?_
  refine x_sld hX hx dL_law_2868 b2 e2 ?_
  refine x_aloadn hX dL_law_2869 rfl ?_
  obtain ⟨r_1, M_2, er_1, h⟩ := cl2_of h
  refine x_wS (As := [vr (xG X) 0, vi p1, vi p2, vr (xG X) 157]) (rest := []) hX dL_law_2870 (c_L_reorder (gk hX) (gl hX) hs h3 p1 p2 M _ _ er_1) kL_reorder w_1570 rfl rfl rfl (Nat.le_of_ble_eq_true rfl) ⟨Nat.le_trans (Nat.add_le_add_left (Nat.le_of_ble_eq_true rfl : 4 ≤ 5) _) hk.1, Nat.le_trans (Nat.add_le_add_left (Nat.le_of_ble_eq_true rfl : 24 ≤ 30) _) hk.2⟩ ?_
  show V X (k + 4) (n + 24) Q 2873 [some (.ref b), some (vr (xG X) 0), some (vr (xG X) 139), some (vr (xG X) 157), some (vi x4), none, none] [vi r_1] M_2
  refine x_istore (ls' := [some (.ref b), some (vr (xG X) 0), some (vr (xG X) 139), some (vr (xG X) 157), some (vi x4), some (vi r_1), none]) hX dL_law_2873 rfl rfl rfl ?_
  refine x_aloadn hX dL_law_2875 rfl ?_
  refine x_qload hX dL_law_2876 rfl ?_
  refine x_iload hX dL_law_2877 rfl ?_
  refine x_iconst hX dL_law_2879 ?_
  refine x_iadd hX dL_law_2880 ?_
  refine x_sld hX hx dL_law_2881 b1 e1 ?_
  refine x_qload hX dL_law_2882 rfl ?_
  refine x_iload hX dL_law_2883 rfl ?_
  refine x_iconst hX dL_law_2885 ?_
  refine x_iadd hX dL_law_2886 ?_
  refine x_sld hX hx dL_law_2887 b2 e2 ?_
  obtain ⟨r_3, M_4, er_3, h⟩ := cl2_of h
  refine x_callVi (t := 11) (As := [vi p1, vi p2]) (rest := []) hX dL_law_2888 (c_X12_reorder (gk hX) (gl hX) hs p1 p2 M_2 _ _ er_3) kX12_reorder vX12_reorder w_2249 (st139 hs) rfl rfl rfl rfl (Nat.le_of_ble_eq_true rfl) ⟨Nat.le_trans (Nat.add_le_add_left (Nat.le_of_ble_eq_true rfl : 4 ≤ 5) _) hk.1, Nat.le_trans (Nat.add_le_add_left (Nat.le_of_ble_eq_true rfl : 24 ≤ 30) _) hk.2⟩ ?_
  refine x_istore (ls' := [some (.ref b), some (vr (xG X) 0), some (vr (xG X) 139), some (vr (xG X) 157), some (vi x4), some (vi r_1), some (vi r_3)]) hX dL_law_2891 rfl rfl rfl ?_
  refine x_aloadn hX dL_law_2893 rfl ?_
  obtain ⟨r_5, er_5, h⟩ := cl1_of h
  refine x_callVi (t := 11) (As := []) (rest := []) hX dL_law_2894 (c_X12_thrown (gk hX) (gl hX) hs  M_4 _ er_5) kX12_thrown vX12_thrown w_1727 (st139 hs) rfl rfl rfl rfl (Nat.le_of_ble_eq_true rfl) ⟨Nat.le_trans (Nat.add_le_add_left (Nat.le_of_ble_eq_true rfl : 4 ≤ 5) _) hk.1, Nat.le_trans (Nat.add_le_add_left (Nat.le_of_ble_eq_true rfl : 24 ≤ 30) _) hk.2⟩ ?_
  refine x_iload hX dL_law_2897 rfl ?_
  refine x_icmp_eq (tgt := 2904) hX dL_law_2899 (by decide) rfl rfl (fun hc => ?_) (fun hc => ?_)
  · replace h := (if_pos hc).symm.trans h
    refine x_iload hX dL_law_2904 rfl ?_
    refine x_if_ne (tgt := 2921) hX dL_law_2906 (by decide) rfl (fun hc => ?_) (fun hc => ?_)
    · replace h := (if_pos hc).symm.trans h
      refine x_aloadn hX dL_law_2909 rfl ?_
      refine x_iconst hX dL_law_2910 ?_
      refine x_lald hX dL_law_2911 h3 inc_0_1 ixc_0 ?_
      refine x_iload hX dL_law_2912 rfl ?_
      refine x_i2l hX dL_law_2914 ?_
      refine x_lcmp hX dL_law_2915 ?_
      refine x_if_eq (tgt := 2921) hX dL_law_2916 (by decide) rfl (fun hc => ?_) (fun hc => ?_)
      · replace h := (if_pos hc).symm.trans h
        refine x_goto (tgt := 3147) hX dL_law_2921 (by decide) ?_
        cases h
        exact x_wid (k2 := k + 5) (n2 := n + 30) (Nat.add_le_add_left (Nat.le_of_ble_eq_true rfl : 4 ≤ 5) _) (Nat.add_le_add_left (Nat.le_of_ble_eq_true rfl : 24 ≤ 30) _) (x_weak [true, true, true, true, true, false, false] rfl hE)
      · replace h := (if_neg hc).symm.trans h
        refine x_iconst hX dL_law_2919 ?_
        cases h
    · replace h := (if_neg hc).symm.trans h
      refine x_goto (tgt := 3147) hX dL_law_2921 (by decide) ?_
      cases h
      exact x_wid (k2 := k + 5) (n2 := n + 30) (Nat.add_le_add_left (Nat.le_of_ble_eq_true rfl : 4 ≤ 5) _) (Nat.add_le_add_left (Nat.le_of_ble_eq_true rfl : 24 ≤ 30) _) (x_weak [true, true, true, true, true, false, false] rfl hE)
  · replace h := (if_neg hc).symm.trans h
    refine x_iconst hX dL_law_2902 ?_
    cases h

set_option maxRecDepth 100000 in
set_option maxHeartbeats 4000000 in
theorem law_51 {X : Cxt} (hX : Gd X RL cL_law 7 (some .boolean) 40) (hs : SOK (xG X)) (h3 : at_ (xG X) 157 4 1) {b Lx : Nat} {sx : Nat → Int} (hx : SX X b Lx sx) (x4 p1 p2 p3 p4 : Int) (b1 : inb (x4 + 1) Lx) (b2 : inb (x4 + 2) Lx) (b3 : inb (x4 + 3) Lx) (b4 : inb (x4 + 4) Lx) (e1 : sx (ix (x4 + 1)) = p1) (e2 : sx (ix (x4 + 2)) = p2) (e3 : sx (ix (x4 + 3)) = p3) (e4 : sx (ix (x4 + 4)) = p4) {k n : Nat} (hk : k + 5 ≤ (xR X).cells ∧ n + 30 ≤ (xR X).slots) {Q : State → Prop} (M Mr : Mem) (h : L_51 p1 p2 p3 p4 M = some Mr) (hE : V X (k + 5) (n + 30) Q 3147 [some (.ref b), some (vr (xG X) 0), some (vr (xG X) 139), some (vr (xG X) 157), some (vi x4), none, none] [] Mr) : V X k n Q 2924 [some (.ref b), some (vr (xG X) 0), some (vr (xG X) 139), some (vr (xG X) 157), some (vi x4), none, none] [] M := by
  unfold L_51 at h
  refine x_aloadn hX dL_law_2924 rfl ?_
  refine x_qload hX dL_law_2925 rfl ?_
  refine x_iload hX dL_law_2926 rfl ?_
  refine x_iconst hX dL_law_2928 ?_
  refine x_iadd hX dL_law_2929 ?_
  refine x_sld hX hx dL_law_2930 b1 e1 ?_
  refine x_aloadn hX dL_law_2931 rfl ?_
  obtain ⟨r_1, M_2, er_1, h⟩ := cl2_of h
  refine x_wS (As := [vr (xG X) 0, vi p1, vr (xG X) 157]) (rest := []) hX dL_law_2932 (c_L_appendText (gk hX) (gl hX) hs h3 p1 M _ _ er_1) kL_appendText w_1588 rfl rfl rfl (Nat.le_of_ble_eq_true rfl) ⟨Nat.le_trans (Nat.add_le_add_left (Nat.le_of_ble_eq_true rfl : 1 ≤ 5) _) hk.1, Nat.le_trans (Nat.add_le_add_left (Nat.le_of_ble_eq_true rfl : 6 ≤ 30) _) hk.2⟩ ?_
  show V X (k + 1) (n + 6) Q 2935 [some (.ref b), some (vr (xG X) 0), some (vr (xG X) 139), some (vr (xG X) 157), some (vi x4), none, none] [vi r_1] M_2
  refine x_istore (ls' := [some (.ref b), some (vr (xG X) 0), some (vr (xG X) 139), some (vr (xG X) 157), some (vi x4), some (vi r_1), none]) hX dL_law_2935 rfl rfl rfl ?_
  refine x_aloadn hX dL_law_2937 rfl ?_
  refine x_qload hX dL_law_2938 rfl ?_
  refine x_iload hX dL_law_2939 rfl ?_
  refine x_iconst hX dL_law_2941 ?_
  refine x_iadd hX dL_law_2942 ?_
  refine x_sld hX hx dL_law_2943 b1 e1 ?_
  obtain ⟨r_3, M_4, er_3, h⟩ := cl2_of h
  refine x_callVi (t := 11) (As := [vi p1]) (rest := []) hX dL_law_2944 (c_X12_appendText (gk hX) (gl hX) hs p1 M_2 _ _ er_3) kX12_appendText vX12_appendText w_2257 (st139 hs) rfl rfl rfl rfl (Nat.le_of_ble_eq_true rfl) ⟨Nat.le_trans (Nat.add_le_add_left (Nat.le_of_ble_eq_true rfl : 1 ≤ 5) _) hk.1, Nat.le_trans (Nat.add_le_add_left (Nat.le_of_ble_eq_true rfl : 6 ≤ 30) _) hk.2⟩ ?_
  refine x_istore (ls' := [some (.ref b), some (vr (xG X) 0), some (vr (xG X) 139), some (vr (xG X) 157), some (vi x4), some (vi r_1), some (vi r_3)]) hX dL_law_2947 rfl rfl rfl ?_
  refine x_aloadn hX dL_law_2949 rfl ?_
  obtain ⟨r_5, er_5, h⟩ := cl1_of h
  refine x_callVi (t := 11) (As := []) (rest := []) hX dL_law_2950 (c_X12_thrown (gk hX) (gl hX) hs  M_4 _ er_5) kX12_thrown vX12_thrown w_1727 (st139 hs) rfl rfl rfl rfl (Nat.le_of_ble_eq_true rfl) ⟨Nat.le_trans (Nat.add_le_add_left (Nat.le_of_ble_eq_true rfl : 1 ≤ 5) _) hk.1, Nat.le_trans (Nat.add_le_add_left (Nat.le_of_ble_eq_true rfl : 6 ≤ 30) _) hk.2⟩ ?_
  refine x_iload hX dL_law_2953 rfl ?_
  refine x_icmp_eq (tgt := 2960) hX dL_law_2955 (by decide) rfl rfl (fun hc => ?_) (fun hc => ?_)
  · replace h := (if_pos hc).symm.trans h
    refine x_iload hX dL_law_2960 rfl ?_
    refine x_if_ne (tgt := 2977) hX dL_law_2962 (by decide) rfl (fun hc => ?_) (fun hc => ?_)
    · replace h := (if_pos hc).symm.trans h
      refine x_aloadn hX dL_law_2965 rfl ?_
      refine x_iconst hX dL_law_2966 ?_
      refine x_lald hX dL_law_2967 h3 inc_0_1 ixc_0 ?_
      refine x_iload hX dL_law_2968 rfl ?_
      refine x_i2l hX dL_law_2970 ?_
      refine x_lcmp hX dL_law_2971 ?_
      refine x_if_eq (tgt := 2977) hX dL_law_2972 (by decide) rfl (fun hc => ?_) (fun hc => ?_)
      · replace h := (if_pos hc).symm.trans h
        refine x_goto (tgt := 3147) hX dL_law_2977 (by decide) ?_
        cases h
        exact x_wid (k2 := k + 5) (n2 := n + 30) (Nat.add_le_add_left (Nat.le_of_ble_eq_true rfl : 1 ≤ 5) _) (Nat.add_le_add_left (Nat.le_of_ble_eq_true rfl : 6 ≤ 30) _) (x_weak [true, true, true, true, true, false, false] rfl hE)
      · replace h := (if_neg hc).symm.trans h
        refine x_iconst hX dL_law_2975 ?_
        cases h
    · replace h := (if_neg hc).symm.trans h
      refine x_goto (tgt := 3147) hX dL_law_2977 (by decide) ?_
      cases h
      exact x_wid (k2 := k + 5) (n2 := n + 30) (Nat.add_le_add_left (Nat.le_of_ble_eq_true rfl : 1 ≤ 5) _) (Nat.add_le_add_left (Nat.le_of_ble_eq_true rfl : 6 ≤ 30) _) (x_weak [true, true, true, true, true, false, false] rfl hE)
  · replace h := (if_neg hc).symm.trans h
    refine x_iconst hX dL_law_2958 ?_
    cases h

set_option maxRecDepth 100000 in
set_option maxHeartbeats 4000000 in
theorem law_52 {X : Cxt} (hX : Gd X RL cL_law 7 (some .boolean) 40) (hs : SOK (xG X)) (h3 : at_ (xG X) 157 4 1) {b Lx : Nat} {sx : Nat → Int} (hx : SX X b Lx sx) (x4 p1 p2 p3 p4 : Int) (b1 : inb (x4 + 1) Lx) (b2 : inb (x4 + 2) Lx) (b3 : inb (x4 + 3) Lx) (b4 : inb (x4 + 4) Lx) (e1 : sx (ix (x4 + 1)) = p1) (e2 : sx (ix (x4 + 2)) = p2) (e3 : sx (ix (x4 + 3)) = p3) (e4 : sx (ix (x4 + 4)) = p4) {k n : Nat} (hk : k + 5 ≤ (xR X).cells ∧ n + 30 ≤ (xR X).slots) {Q : State → Prop} (M Mr : Mem) (h : L_52 p1 p2 p3 p4 M = some Mr) (hE : V X (k + 5) (n + 30) Q 3147 [some (.ref b), some (vr (xG X) 0), some (vr (xG X) 139), some (vr (xG X) 157), some (vi x4), none, none] [] Mr) : V X k n Q 2980 [some (.ref b), some (vr (xG X) 0), some (vr (xG X) 139), some (vr (xG X) 157), some (vi x4), none, none] [] M := by
  unfold L_52 at h
  refine x_aloadn hX dL_law_2980 rfl ?_
  refine x_qload hX dL_law_2981 rfl ?_
  refine x_iload hX dL_law_2982 rfl ?_
  refine x_iconst hX dL_law_2984 ?_
  refine x_iadd hX dL_law_2985 ?_
  refine x_sld hX hx dL_law_2986 b1 e1 ?_
  refine x_aloadn hX dL_law_2987 rfl ?_
  obtain ⟨r_1, M_2, er_1, h⟩ := cl2_of h
  refine x_wS (As := [vr (xG X) 0, vi p1, vr (xG X) 157]) (rest := []) hX dL_law_2988 (c_L_truncateText (gk hX) (gl hX) hs h3 p1 M _ _ er_1) kL_truncateText w_1600 rfl rfl rfl (Nat.le_of_ble_eq_true rfl) ⟨Nat.le_trans (Nat.add_le_add_left (Nat.le_of_ble_eq_true rfl : 1 ≤ 5) _) hk.1, Nat.le_trans (Nat.add_le_add_left (Nat.le_of_ble_eq_true rfl : 6 ≤ 30) _) hk.2⟩ ?_
  show V X (k + 1) (n + 6) Q 2991 [some (.ref b), some (vr (xG X) 0), some (vr (xG X) 139), some (vr (xG X) 157), some (vi x4), none, none] [vi r_1] M_2
  refine x_istore (ls' := [some (.ref b), some (vr (xG X) 0), some (vr (xG X) 139), some (vr (xG X) 157), some (vi x4), some (vi r_1), none]) hX dL_law_2991 rfl rfl rfl ?_
  refine x_aloadn hX dL_law_2993 rfl ?_
  refine x_qload hX dL_law_2994 rfl ?_
  refine x_iload hX dL_law_2995 rfl ?_
  refine x_iconst hX dL_law_2997 ?_
  refine x_iadd hX dL_law_2998 ?_
  refine x_sld hX hx dL_law_2999 b1 e1 ?_
  obtain ⟨r_3, M_4, er_3, h⟩ := cl2_of h
  refine x_callVi (t := 11) (As := [vi p1]) (rest := []) hX dL_law_3000 (c_X12_truncateText (gk hX) (gl hX) hs p1 M_2 _ _ er_3) kX12_truncateText vX12_truncateText w_2261 (st139 hs) rfl rfl rfl rfl (Nat.le_of_ble_eq_true rfl) ⟨Nat.le_trans (Nat.add_le_add_left (Nat.le_of_ble_eq_true rfl : 1 ≤ 5) _) hk.1, Nat.le_trans (Nat.add_le_add_left (Nat.le_of_ble_eq_true rfl : 6 ≤ 30) _) hk.2⟩ ?_
  refine x_istore (ls' := [some (.ref b), some (vr (xG X) 0), some (vr (xG X) 139), some (vr (xG X) 157), some (vi x4), some (vi r_1), some (vi r_3)]) hX dL_law_3003 rfl rfl rfl ?_
  refine x_aloadn hX dL_law_3005 rfl ?_
  obtain ⟨r_5, er_5, h⟩ := cl1_of h
  refine x_callVi (t := 11) (As := []) (rest := []) hX dL_law_3006 (c_X12_thrown (gk hX) (gl hX) hs  M_4 _ er_5) kX12_thrown vX12_thrown w_1727 (st139 hs) rfl rfl rfl rfl (Nat.le_of_ble_eq_true rfl) ⟨Nat.le_trans (Nat.add_le_add_left (Nat.le_of_ble_eq_true rfl : 1 ≤ 5) _) hk.1, Nat.le_trans (Nat.add_le_add_left (Nat.le_of_ble_eq_true rfl : 6 ≤ 30) _) hk.2⟩ ?_
  refine x_iload hX dL_law_3009 rfl ?_
  refine x_icmp_eq (tgt := 3016) hX dL_law_3011 (by decide) rfl rfl (fun hc => ?_) (fun hc => ?_)
  · replace h := (if_pos hc).symm.trans h
    refine x_iload hX dL_law_3016 rfl ?_
    refine x_if_ne (tgt := 3033) hX dL_law_3018 (by decide) rfl (fun hc => ?_) (fun hc => ?_)
    · replace h := (if_pos hc).symm.trans h
      refine x_aloadn hX dL_law_3021 rfl ?_
      refine x_iconst hX dL_law_3022 ?_
      refine x_lald hX dL_law_3023 h3 inc_0_1 ixc_0 ?_
      refine x_iload hX dL_law_3024 rfl ?_
      refine x_i2l hX dL_law_3026 ?_
      refine x_lcmp hX dL_law_3027 ?_
      refine x_if_eq (tgt := 3033) hX dL_law_3028 (by decide) rfl (fun hc => ?_) (fun hc => ?_)
      · replace h := (if_pos hc).symm.trans h
        refine x_goto (tgt := 3147) hX dL_law_3033 (by decide) ?_
        cases h
        exact x_wid (k2 := k + 5) (n2 := n + 30) (Nat.add_le_add_left (Nat.le_of_ble_eq_true rfl : 1 ≤ 5) _) (Nat.add_le_add_left (Nat.le_of_ble_eq_true rfl : 6 ≤ 30) _) (x_weak [true, true, true, true, true, false, false] rfl hE)
      · replace h := (if_neg hc).symm.trans h
        refine x_iconst hX dL_law_3031 ?_
        cases h
    · replace h := (if_neg hc).symm.trans h
      refine x_goto (tgt := 3147) hX dL_law_3033 (by decide) ?_
      cases h
      exact x_wid (k2 := k + 5) (n2 := n + 30) (Nat.add_le_add_left (Nat.le_of_ble_eq_true rfl : 1 ≤ 5) _) (Nat.add_le_add_left (Nat.le_of_ble_eq_true rfl : 6 ≤ 30) _) (x_weak [true, true, true, true, true, false, false] rfl hE)
  · replace h := (if_neg hc).symm.trans h
    refine x_iconst hX dL_law_3014 ?_
    cases h

set_option maxRecDepth 100000 in
set_option maxHeartbeats 4000000 in
theorem law_53 {X : Cxt} (hX : Gd X RL cL_law 7 (some .boolean) 40) (hs : SOK (xG X)) (h3 : at_ (xG X) 157 4 1) {b Lx : Nat} {sx : Nat → Int} (hx : SX X b Lx sx) (x4 p1 p2 p3 p4 : Int) (b1 : inb (x4 + 1) Lx) (b2 : inb (x4 + 2) Lx) (b3 : inb (x4 + 3) Lx) (b4 : inb (x4 + 4) Lx) (e1 : sx (ix (x4 + 1)) = p1) (e2 : sx (ix (x4 + 2)) = p2) (e3 : sx (ix (x4 + 3)) = p3) (e4 : sx (ix (x4 + 4)) = p4) {k n : Nat} (hk : k + 5 ≤ (xR X).cells ∧ n + 30 ≤ (xR X).slots) {Q : State → Prop} (M Mr : Mem) (h : L_53 p1 p2 p3 p4 M = some Mr) (hE : V X (k + 5) (n + 30) Q 3147 [some (.ref b), some (vr (xG X) 0), some (vr (xG X) 139), some (vr (xG X) 157), some (vi x4), none, none] [] Mr) : V X k n Q 3036 [some (.ref b), some (vr (xG X) 0), some (vr (xG X) 139), some (vr (xG X) 157), some (vi x4), none, none] [] M := by
  unfold L_53 at h
  refine x_aloadn hX dL_law_3036 rfl ?_
  obtain ⟨r_1, M_2, er_1, h⟩ := cl2_of h
  refine x_callVi (t := 10) (As := []) (rest := []) hX dL_law_3037 (c_X11_load (gk hX) (gl hX) hs  M _ _ er_1) kX11_load vX11_load w_767 (st0 hs) rfl rfl rfl rfl (Nat.le_of_ble_eq_true rfl) ⟨Nat.le_trans (Nat.add_le_add_left (Nat.le_of_ble_eq_true rfl : 0 ≤ 5) _) hk.1, Nat.le_trans (Nat.add_le_add_left (Nat.le_of_ble_eq_true rfl : 0 ≤ 30) _) hk.2⟩ ?_
  refine x_aloadn hX dL_law_3040 rfl ?_
  obtain ⟨r_3, M_4, er_3, h⟩ := cl2_of h
  refine x_callVi (t := 11) (As := []) (rest := [vi r_1]) hX dL_law_3041 (c_X12_load (gk hX) (gl hX) hs  M_2 _ _ er_3) kX12_load vX12_load w_2265 (st139 hs) rfl rfl rfl rfl (Nat.le_of_ble_eq_true rfl) ⟨Nat.le_trans (Nat.add_le_add_left (Nat.le_of_ble_eq_true rfl : 0 ≤ 5) _) hk.1, Nat.le_trans (Nat.add_le_add_left (Nat.le_of_ble_eq_true rfl : 0 ≤ 30) _) hk.2⟩ ?_
  refine x_icmp_eq (tgt := 3147) hX dL_law_3044 (by decide) rfl rfl (fun hc => ?_) (fun hc => ?_)
  · replace h := (if_pos hc).symm.trans h
    cases h
    exact x_wid (k2 := k + 5) (n2 := n + 30) (Nat.add_le_add_left (Nat.le_of_ble_eq_true rfl : 0 ≤ 5) _) (Nat.add_le_add_left (Nat.le_of_ble_eq_true rfl : 0 ≤ 30) _) (x_weak [true, true, true, true, true, false, false] rfl hE)
  · replace h := (if_neg hc).symm.trans h
    refine x_iconst hX dL_law_3047 ?_
    cases h

set_option maxRecDepth 100000 in
set_option maxHeartbeats 4000000 in
theorem law_54 {X : Cxt} (hX : Gd X RL cL_law 7 (some .boolean) 40) (hs : SOK (xG X)) (h3 : at_ (xG X) 157 4 1) {b Lx : Nat} {sx : Nat → Int} (hx : SX X b Lx sx) (x4 p1 p2 p3 p4 : Int) (b1 : inb (x4 + 1) Lx) (b2 : inb (x4 + 2) Lx) (b3 : inb (x4 + 3) Lx) (b4 : inb (x4 + 4) Lx) (e1 : sx (ix (x4 + 1)) = p1) (e2 : sx (ix (x4 + 2)) = p2) (e3 : sx (ix (x4 + 3)) = p3) (e4 : sx (ix (x4 + 4)) = p4) {k n : Nat} (hk : k + 5 ≤ (xR X).cells ∧ n + 30 ≤ (xR X).slots) {Q : State → Prop} (M Mr : Mem) (h : L_54 p1 p2 p3 p4 M = some Mr) (hE : V X (k + 5) (n + 30) Q 3147 [some (.ref b), some (vr (xG X) 0), some (vr (xG X) 139), some (vr (xG X) 157), some (vi x4), none, none] [] Mr) : V X k n Q 3049 [some (.ref b), some (vr (xG X) 0), some (vr (xG X) 139), some (vr (xG X) 157), some (vi x4), none, none] [] M := by
  unfold L_54 at h
  refine x_aloadn hX dL_law_3049 rfl ?_
  obtain ⟨r_1, er_1, h⟩ := cl1_of h
  refine x_callVi (t := 10) (As := []) (rest := []) hX dL_law_3050 (c_X11_errorCode (gk hX) (gl hX) hs  M _ er_1) kX11_errorCode vX11_errorCode w_948 (st0 hs) rfl rfl rfl rfl (Nat.le_of_ble_eq_true rfl) ⟨Nat.le_trans (Nat.add_le_add_left (Nat.le_of_ble_eq_true rfl : 0 ≤ 5) _) hk.1, Nat.le_trans (Nat.add_le_add_left (Nat.le_of_ble_eq_true rfl : 0 ≤ 30) _) hk.2⟩ ?_
  refine x_aloadn hX dL_law_3053 rfl ?_
  obtain ⟨r_3, M_4, er_3, h⟩ := cl2_of h
  refine x_callVi (t := 11) (As := []) (rest := [vi r_1]) hX dL_law_3054 (c_X12_errorCode (gk hX) (gl hX) hs  M _ _ er_3) kX12_errorCode vX12_errorCode w_2345 (st139 hs) rfl rfl rfl rfl (Nat.le_of_ble_eq_true rfl) ⟨Nat.le_trans (Nat.add_le_add_left (Nat.le_of_ble_eq_true rfl : 0 ≤ 5) _) hk.1, Nat.le_trans (Nat.add_le_add_left (Nat.le_of_ble_eq_true rfl : 0 ≤ 30) _) hk.2⟩ ?_
  refine x_icmp_eq (tgt := 3147) hX dL_law_3057 (by decide) rfl rfl (fun hc => ?_) (fun hc => ?_)
  · replace h := (if_pos hc).symm.trans h
    cases h
    exact x_wid (k2 := k + 5) (n2 := n + 30) (Nat.add_le_add_left (Nat.le_of_ble_eq_true rfl : 0 ≤ 5) _) (Nat.add_le_add_left (Nat.le_of_ble_eq_true rfl : 0 ≤ 30) _) (x_weak [true, true, true, true, true, false, false] rfl hE)
  · replace h := (if_neg hc).symm.trans h
    refine x_iconst hX dL_law_3060 ?_
    cases h

set_option maxRecDepth 100000 in
set_option maxHeartbeats 4000000 in
theorem law_55 {X : Cxt} (hX : Gd X RL cL_law 7 (some .boolean) 40) (hs : SOK (xG X)) (h3 : at_ (xG X) 157 4 1) {b Lx : Nat} {sx : Nat → Int} (hx : SX X b Lx sx) (x4 p1 p2 p3 p4 : Int) (b1 : inb (x4 + 1) Lx) (b2 : inb (x4 + 2) Lx) (b3 : inb (x4 + 3) Lx) (b4 : inb (x4 + 4) Lx) (e1 : sx (ix (x4 + 1)) = p1) (e2 : sx (ix (x4 + 2)) = p2) (e3 : sx (ix (x4 + 3)) = p3) (e4 : sx (ix (x4 + 4)) = p4) {k n : Nat} (hk : k + 5 ≤ (xR X).cells ∧ n + 30 ≤ (xR X).slots) {Q : State → Prop} (M Mr : Mem) (h : L_55 p1 p2 p3 p4 M = some Mr) (hE : V X (k + 5) (n + 30) Q 3147 [some (.ref b), some (vr (xG X) 0), some (vr (xG X) 139), some (vr (xG X) 157), some (vi x4), none, none] [] Mr) : V X k n Q 3062 [some (.ref b), some (vr (xG X) 0), some (vr (xG X) 139), some (vr (xG X) 157), some (vi x4), none, none] [] M := by
  unfold L_55 at h
  refine x_aloadn hX dL_law_3062 rfl ?_
  obtain ⟨r_1, er_1, h⟩ := cl1_of h
  refine x_callVi (t := 10) (As := []) (rest := []) hX dL_law_3063 (c_X11_errorPosition (gk hX) (gl hX) hs  M _ er_1) kX11_errorPosition vX11_errorPosition w_952 (st0 hs) rfl rfl rfl rfl (Nat.le_of_ble_eq_true rfl) ⟨Nat.le_trans (Nat.add_le_add_left (Nat.le_of_ble_eq_true rfl : 0 ≤ 5) _) hk.1, Nat.le_trans (Nat.add_le_add_left (Nat.le_of_ble_eq_true rfl : 0 ≤ 30) _) hk.2⟩ ?_
  refine x_aloadn hX dL_law_3066 rfl ?_
  obtain ⟨r_3, M_4, er_3, h⟩ := cl2_of h
  refine x_callVi (t := 11) (As := []) (rest := [vi r_1]) hX dL_law_3067 (c_X12_errorPosition (gk hX) (gl hX) hs  M _ _ er_3) kX12_errorPosition vX12_errorPosition w_2349 (st139 hs) rfl rfl rfl rfl (Nat.le_of_ble_eq_true rfl) ⟨Nat.le_trans (Nat.add_le_add_left (Nat.le_of_ble_eq_true rfl : 0 ≤ 5) _) hk.1, Nat.le_trans (Nat.add_le_add_left (Nat.le_of_ble_eq_true rfl : 0 ≤ 30) _) hk.2⟩ ?_
  refine x_icmp_eq (tgt := 3147) hX dL_law_3070 (by decide) rfl rfl (fun hc => ?_) (fun hc => ?_)
  · replace h := (if_pos hc).symm.trans h
    cases h
    exact x_wid (k2 := k + 5) (n2 := n + 30) (Nat.add_le_add_left (Nat.le_of_ble_eq_true rfl : 0 ≤ 5) _) (Nat.add_le_add_left (Nat.le_of_ble_eq_true rfl : 0 ≤ 30) _) (x_weak [true, true, true, true, true, false, false] rfl hE)
  · replace h := (if_neg hc).symm.trans h
    refine x_iconst hX dL_law_3073 ?_
    cases h

set_option maxRecDepth 100000 in
set_option maxHeartbeats 4000000 in
theorem law_57 {X : Cxt} (hX : Gd X RL cL_law 7 (some .boolean) 40) (hs : SOK (xG X)) (h3 : at_ (xG X) 157 4 1) {b Lx : Nat} {sx : Nat → Int} (hx : SX X b Lx sx) (x4 p1 p2 p3 p4 : Int) (b1 : inb (x4 + 1) Lx) (b2 : inb (x4 + 2) Lx) (b3 : inb (x4 + 3) Lx) (b4 : inb (x4 + 4) Lx) (e1 : sx (ix (x4 + 1)) = p1) (e2 : sx (ix (x4 + 2)) = p2) (e3 : sx (ix (x4 + 3)) = p3) (e4 : sx (ix (x4 + 4)) = p4) {k n : Nat} (hk : k + 5 ≤ (xR X).cells ∧ n + 30 ≤ (xR X).slots) {Q : State → Prop} (M Mr : Mem) (hsv : ∀ j : Nat, j < 2 → ¬ M 37 j = 0 → at_ (xG X) (160 + 18 * j) 11 0) (h : L_57 p1 p2 p3 p4 M = some Mr) (hE : V X (k + 5) (n + 30) Q 3147 [some (.ref b), some (vr (xG X) 0), some (vr (xG X) 139), some (vr (xG X) 157), some (vi x4), none, none] [] Mr) : V X k n Q 3111 [some (.ref b), some (vr (xG X) 0), some (vr (xG X) 139), some (vr (xG X) 157), some (vi x4), none, none] [] M := by
  unfold L_57 at h
  refine x_aloadn hX dL_law_3111 rfl ?_
  refine x_qload hX dL_law_3112 rfl ?_
  refine x_iload hX dL_law_3113 rfl ?_
  refine x_iconst hX dL_law_3115 ?_
  refine x_iadd hX dL_law_3116 ?_
  refine x_sld hX hx dL_law_3117 b1 e1 ?_
  obtain ⟨r_1, M_2, er_1, h⟩ := cl2_of h
  refine x_wS (As := [vr (xG X) 0, vi p1]) (rest := []) hX dL_law_3118 (c_L_restore (gk hX) (gl hX) hs p1 M hsv _ _ er_1) kL_restore w_1614 rfl rfl rfl (Nat.le_of_ble_eq_true rfl) ⟨Nat.le_trans (Nat.add_le_add_left (Nat.le_of_ble_eq_true rfl : 2 ≤ 5) _) hk.1, Nat.le_trans (Nat.add_le_add_left (Nat.le_of_ble_eq_true rfl : 12 ≤ 30) _) hk.2⟩ ?_
  show V X (k + 2) (n + 12) Q 3121 [some (.ref b), some (vr (xG X) 0), some (vr (xG X) 139), some (vr (xG X) 157), some (vi x4), none, none] [vi r_1] M_2
  refine x_istore (ls' := [some (.ref b), some (vr (xG X) 0), some (vr (xG X) 139), some (vr (xG X) 157), some (vi x4), some (vi r_1), none]) hX dL_law_3121 rfl rfl rfl ?_
  refine x_aloadn hX dL_law_3123 rfl ?_
  refine x_qload hX dL_law_3124 rfl ?_
  refine x_iload hX dL_law_3125 rfl ?_
  refine x_iconst hX dL_law_3127 ?_
  refine x_iadd hX dL_law_3128 ?_
  refine x_sld hX hx dL_law_3129 b1 e1 ?_
  obtain ⟨M_4, er_3, h⟩ := cl1_of h
  refine x_callVv (t := 11) (As := [vi p1]) (rest := []) hX dL_law_3130 (c_X12_restore (gk hX) (gl hX) hs p1 M_2 _ er_3) kX12_restore vX12_restore w_2357 (st139 hs) rfl rfl rfl rfl (Nat.le_of_ble_eq_true rfl) ⟨Nat.le_trans (Nat.add_le_add_left (Nat.le_of_ble_eq_true rfl : 2 ≤ 5) _) hk.1, Nat.le_trans (Nat.add_le_add_left (Nat.le_of_ble_eq_true rfl : 12 ≤ 30) _) hk.2⟩ ?_
  refine x_aloadn hX dL_law_3133 rfl ?_
  obtain ⟨r_5, er_5, h⟩ := cl1_of h
  refine x_callVi (t := 11) (As := []) (rest := []) hX dL_law_3134 (c_X12_thrown (gk hX) (gl hX) hs  M_4 _ er_5) kX12_thrown vX12_thrown w_1727 (st139 hs) rfl rfl rfl rfl (Nat.le_of_ble_eq_true rfl) ⟨Nat.le_trans (Nat.add_le_add_left (Nat.le_of_ble_eq_true rfl : 2 ≤ 5) _) hk.1, Nat.le_trans (Nat.add_le_add_left (Nat.le_of_ble_eq_true rfl : 12 ≤ 30) _) hk.2⟩ ?_
  refine x_iload hX dL_law_3137 rfl ?_
  refine x_icmp_eq (tgt := 3144) hX dL_law_3139 (by decide) rfl rfl (fun hc => ?_) (fun hc => ?_)
  · replace h := (if_pos hc).symm.trans h
    refine x_goto (tgt := 3147) hX dL_law_3144 (by decide) ?_
    cases h
    exact x_wid (k2 := k + 5) (n2 := n + 30) (Nat.add_le_add_left (Nat.le_of_ble_eq_true rfl : 2 ≤ 5) _) (Nat.add_le_add_left (Nat.le_of_ble_eq_true rfl : 12 ≤ 30) _) (x_weak [true, true, true, true, true, false, false] rfl hE)
  · replace h := (if_neg hc).symm.trans h
    refine x_iconst hX dL_law_3142 ?_
    cases h
