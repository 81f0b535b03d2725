/-! FROM THE EMPTY WORLD TO THE LAYOUT: the constructors -/
def kw0 : mW := mW0
def kw1 : mW := mNew kw0 (0, 9) 11
def kw2 : mW := mNew kw1 (0, 6) 2
def kw3 : mW := mNew kw2 (1, 940) 940
def kw4 : mW := wsR kw3 (mSet (wR kw3) 1 0 (some 2))
def kw5 : mW := wsR kw4 (mSet (wR kw4) 0 0 (some 1))
def kw6 : mW := mNew kw5 (0, 2) 7
def kw7 : mW := mNew kw6 (0, 3) 13
def kw8 : mW := mNew kw7 (1, 64) 64
def kw9 : mW := wsR kw8 (mSet (wR kw8) 4 6 (some 5))
def kw10 : mW := mNew kw9 (4, 6) 6
def kw11 : mW := wsR kw10 (mSet (wR kw10) 4 7 (some 6))
def kw12 : mW := mNew kw11 (1, 8) 8
def kw13 : mW := wsR kw12 (mSet (wR kw12) 4 8 (some 7))
def kw14 : mW := mNew kw13 (1, 8) 8
def kw15 : mW := wsR kw14 (mSet (wR kw14) 4 9 (some 8))
def kw16 : mW := mNew kw15 (1, 12) 12
def kw17 : mW := wsR kw16 (mSet (wR kw16) 4 10 (some 9))
def kw18 : mW := mNew kw17 (1, 240) 240
def kw19 : mW := wsR kw18 (mSet (wR kw18) 4 11 (some 10))
def kw20 : mW := mNew kw19 (4, 384) 384
def kw21 : mW := wsR kw20 (mSet (wR kw20) 4 12 (some 11))
def kw22 : mW := wsI kw21 (mSet (wI kw21) 4 0 (0))
def kw23 : mW := wsI kw22 (mSet (wI kw22) 4 1 (0))
def kw24 : mW := wsI kw23 (mSet (wI kw23) 4 2 (1))
def kw25 : mW := wsI kw24 (mSet (wI kw24) 4 3 (600))
def kw26 : mW := wsI kw25 (mSet (wI kw25) 4 4 (0))
def kw27 : mW := wsJ kw26 (mSet (wJ kw26) 4 5 (0))
def kw28 : mW := wsJ kw27 (va_up (wJ kw27) 6 (fun j => if j < 6 then (0) else wJ kw27 6 j))
def kw29 : mW := wsI kw28 (va_up (wI kw28) 7 (fun j => if j < 8 then (10) else wI kw28 7 j))
def kw30 : mW := wsI kw29 (va_up (wI kw29) 8 (fun j => if j < 8 then (-1) else wI kw29 8 j))
def kw31 : mW := wsI kw30 (va_up (wI kw30) 9 (fun j => if j < 12 then (-1) else wI kw30 9 j))
def kw32 : mW := wsR kw31 (mSet (wR kw31) 3 0 (some 4))
def kw33 : mW := mNew kw32 (1, 30) 30
def kw34 : mW := wsR kw33 (mSet (wR kw33) 3 1 (some 12))
def kw35 : mW := mNew kw34 (1, 30) 30
def kw36 : mW := wsR kw35 (mSet (wR kw35) 3 2 (some 13))
def kw37 : mW := mNew kw36 (1, 30) 30
def kw38 : mW := wsR kw37 (mSet (wR kw37) 3 3 (some 14))
def kw39 : mW := wsR kw38 (mSet (wR kw38) 0 1 (some 3))
def kw40 : mW := mNew kw39 (0, 2) 7
def kw41 : mW := mNew kw40 (0, 3) 13
def kw42 : mW := mNew kw41 (1, 64) 64
def kw43 : mW := wsR kw42 (mSet (wR kw42) 16 6 (some 17))
def kw44 : mW := mNew kw43 (4, 6) 6
def kw45 : mW := wsR kw44 (mSet (wR kw44) 16 7 (some 18))
def kw46 : mW := mNew kw45 (1, 8) 8
def kw47 : mW := wsR kw46 (mSet (wR kw46) 16 8 (some 19))
def kw48 : mW := mNew kw47 (1, 8) 8
def kw49 : mW := wsR kw48 (mSet (wR kw48) 16 9 (some 20))
def kw50 : mW := mNew kw49 (1, 12) 12
def kw51 : mW := wsR kw50 (mSet (wR kw50) 16 10 (some 21))
def kw52 : mW := mNew kw51 (1, 240) 240
def kw53 : mW := wsR kw52 (mSet (wR kw52) 16 11 (some 22))
def kw54 : mW := mNew kw53 (4, 384) 384
def kw55 : mW := wsR kw54 (mSet (wR kw54) 16 12 (some 23))
def kw56 : mW := wsI kw55 (mSet (wI kw55) 16 0 (0))
def kw57 : mW := wsI kw56 (mSet (wI kw56) 16 1 (0))
def kw58 : mW := wsI kw57 (mSet (wI kw57) 16 2 (1))
def kw59 : mW := wsI kw58 (mSet (wI kw58) 16 3 (600))
def kw60 : mW := wsI kw59 (mSet (wI kw59) 16 4 (0))
def kw61 : mW := wsJ kw60 (mSet (wJ kw60) 16 5 (0))
def kw62 : mW := wsJ kw61 (va_up (wJ kw61) 18 (fun j => if j < 6 then (0) else wJ kw61 18 j))
def kw63 : mW := wsI kw62 (va_up (wI kw62) 19 (fun j => if j < 8 then (10) else wI kw62 19 j))
def kw64 : mW := wsI kw63 (va_up (wI kw63) 20 (fun j => if j < 8 then (-1) else wI kw63 20 j))
def kw65 : mW := wsI kw64 (va_up (wI kw64) 21 (fun j => if j < 12 then (-1) else wI kw64 21 j))
def kw66 : mW := wsR kw65 (mSet (wR kw65) 15 0 (some 16))
def kw67 : mW := mNew kw66 (1, 30) 30
def kw68 : mW := wsR kw67 (mSet (wR kw67) 15 1 (some 24))
def kw69 : mW := mNew kw68 (1, 30) 30
def kw70 : mW := wsR kw69 (mSet (wR kw69) 15 2 (some 25))
def kw71 : mW := mNew kw70 (1, 30) 30
def kw72 : mW := wsR kw71 (mSet (wR kw71) 15 3 (some 26))
def kw73 : mW := wsR kw72 (mSet (wR kw72) 0 2 (some 15))
def kw74 : mW := mNew kw73 (5, 2) 2
def kw75 : mW := wsR kw74 (mSet (wR kw74) 0 3 (some 27))
def kw76 : mW := mNew kw75 (0, 7) 9
def kw77 : mW := wsR kw76 (mSet (wR kw76) 28 0 (some 2))
def kw78 : mW := wsR kw77 (mSet (wR kw77) 0 4 (some 28))
def kw79 : mW := mNew kw78 (0, 4) 7
def kw80 : mW := wsR kw79 (mSet (wR kw79) 29 0 (some 28))
def kw81 : mW := wsR kw80 (mSet (wR kw80) 29 1 (some 16))
def kw82 : mW := wsR kw81 (mSet (wR kw81) 0 5 (some 29))
def kw83 : mW := mNew kw82 (0, 0) 3
def kw84 : mW := wsR kw83 (mSet (wR kw83) 30 0 (some 28))
def kw85 : mW := wsR kw84 (mSet (wR kw84) 30 1 (some 4))
def kw86 : mW := wsR kw85 (mSet (wR kw85) 30 2 (some 15))
def kw87 : mW := wsR kw86 (mSet (wR kw86) 0 6 (some 30))
def kw88 : mW := mNew kw87 (0, 1) 7
def kw89 : mW := mNew kw88 (4, 601) 601
def kw90 : mW := wsR kw89 (mSet (wR kw89) 31 2 (some 32))
def kw91 : mW := mNew kw90 (4, 601) 601
def kw92 : mW := wsR kw91 (mSet (wR kw91) 31 3 (some 33))
def kw93 : mW := mNew kw92 (4, 601) 601
def kw94 : mW := wsR kw93 (mSet (wR kw93) 31 4 (some 34))
def kw95 : mW := mNew kw94 (4, 601) 601
def kw96 : mW := wsR kw95 (mSet (wR kw95) 31 5 (some 35))
def kw97 : mW := wsR kw96 (mSet (wR kw96) 31 0 (some 3))
def kw98 : mW := mNew kw97 (0, 5) 13
def kw99 : mW := wsR kw98 (mSet (wR kw98) 36 0 (some 3))
def kw100 : mW := wsR kw99 (mSet (wR kw99) 36 1 (some 4))
def kw101 : mW := wsR kw100 (mSet (wR kw100) 31 1 (some 36))
def kw102 : mW := wsR kw101 (mSet (wR kw101) 0 7 (some 31))
def kw103 : mW := mNew kw102 (0, 8) 17
def kw104 : mW := mNew kw103 (1, 256) 256
def kw105 : mW := wsR kw104 (mSet (wR kw104) 37 4 (some 38))
def kw106 : mW := mNew kw105 (1, 256) 256
def kw107 : mW := wsR kw106 (mSet (wR kw106) 37 5 (some 39))
def kw108 : mW := mNew kw107 (1, 8) 8
def kw109 : mW := wsR kw108 (mSet (wR kw108) 37 6 (some 40))
def kw110 : mW := wsI kw109 (mSet (wI kw109) 37 8 (-1))
def kw111 : mW := wsI kw110 (mSet (wI kw110) 37 9 (-1))
def kw112 : mW := wsI kw111 (mSet (wI kw111) 37 10 (-1))
def kw113 : mW := wsI kw112 (mSet (wI kw112) 37 11 (-1))
def kw114 : mW := wsI kw113 (mSet (wI kw113) 37 12 (-1))
def kw115 : mW := wsI kw114 (mSet (wI kw114) 37 13 (-1))
def kw116 : mW := wsR kw115 (mSet (wR kw115) 37 0 (some 3))
def kw117 : mW := wsR kw116 (mSet (wR kw116) 37 1 (some 2))
def kw118 : mW := mNew kw117 (0, 5) 13
def kw119 : mW := wsR kw118 (mSet (wR kw118) 41 0 (some 3))
def kw120 : mW := wsR kw119 (mSet (wR kw119) 41 1 (some 4))
def kw121 : mW := wsR kw120 (mSet (wR kw120) 37 2 (some 41))
def kw122 : mW := mNew kw121 (0, 5) 13
def kw123 : mW := wsR kw122 (mSet (wR kw122) 42 0 (some 3))
def kw124 : mW := wsR kw123 (mSet (wR kw123) 42 1 (some 4))
def kw125 : mW := wsR kw124 (mSet (wR kw124) 37 3 (some 42))
def kw126 : mW := wsR kw125 (mSet (wR kw125) 0 8 (some 37))
def kw127 : mW := wsI kw126 (mSet (wI kw126) 0 9 (0))
def kw128 : mW := wsI kw127 (mSet (wI kw127) 0 10 (0))
def kw129 : mW := mNew kw128 (0, 10) 69
def kw130 : mW := mNew kw129 (2, 940) 940
def kw131 : mW := wsR kw130 (mSet (wR kw130) 43 1 (some 44))
def kw132 : mW := mNew kw131 (1, 681) 681
def kw133 : mW := wsR kw132 (mSet (wR kw132) 43 6 (some 45))
def kw134 : mW := mNew kw133 (1, 590) 590
def kw135 : mW := wsR kw134 (mSet (wR kw134) 43 7 (some 46))
def kw136 : mW := mNew kw135 (1, 90) 90
def kw137 : mW := wsR kw136 (mSet (wR kw136) 43 8 (some 47))
def kw138 : mW := mNew kw137 (1, 64) 64
def kw139 : mW := wsR kw138 (mSet (wR kw138) 43 23 (some 48))
def kw140 : mW := mNew kw139 (1, 30) 30
def kw141 : mW := wsR kw140 (mSet (wR kw140) 43 24 (some 49))
def kw142 : mW := mNew kw141 (3, 64) 64
def kw143 : mW := wsR kw142 (mSet (wR kw142) 43 25 (some 50))
def kw144 : mW := mNew kw143 (4, 384) 384
def kw145 : mW := wsR kw144 (mSet (wR kw144) 43 29 (some 51))
def kw146 : mW := wsI kw145 (mSet (wI kw145) 43 30 (1))
def kw147 : mW := mNew kw146 (4, 601) 601
def kw148 : mW := wsR kw147 (mSet (wR kw147) 43 32 (some 52))
def kw149 : mW := mNew kw148 (4, 601) 601
def kw150 : mW := wsR kw149 (mSet (wR kw149) 43 33 (some 53))
def kw151 : mW := mNew kw150 (4, 601) 601
def kw152 : mW := wsR kw151 (mSet (wR kw151) 43 34 (some 54))
def kw153 : mW := mNew kw152 (4, 601) 601
def kw154 : mW := wsR kw153 (mSet (wR kw153) 43 35 (some 55))
def kw155 : mW := mNew kw154 (1, 14) 14
def kw156 : mW := wsR kw155 (mSet (wR kw155) 43 46 (some 56))
def kw157 : mW := wsI kw156 (mSet (wI kw156) 43 48 (-1))
def kw158 : mW := mNew kw157 (3, 256) 256
def kw159 : mW := wsR kw158 (mSet (wR kw158) 43 49 (some 57))
def kw160 : mW := mNew kw159 (1, 256) 256
def kw161 : mW := wsR kw160 (mSet (wR kw160) 43 50 (some 58))
def kw162 : mW := mNew kw161 (4, 8) 8
def kw163 : mW := wsR kw162 (mSet (wR kw162) 43 51 (some 59))
def kw164 : mW := mNew kw163 (1, 3) 3
def kw165 : mW := wsR kw164 (mSet (wR kw164) 43 54 (some 60))
def kw166 : mW := wsI kw165 (mSet (wI kw165) 43 59 (-1))
def kw167 : mW := wsI kw166 (mSet (wI kw166) 43 60 (-1))
def kw168 : mW := mNew kw167 (4, 61) 61
def kw169 : mW := wsR kw168 (mSet (wR kw168) 43 61 (some 61))
def kw170 : mW := mNew kw169 (4, 61) 61
def kw171 : mW := wsR kw170 (mSet (wR kw170) 43 62 (some 62))
def kw172 : mW := mNew kw171 (1, 1362) 1362
def kw173 : mW := wsR kw172 (mSet (wR kw172) 43 65 (some 63))
def kw174 : mW := mNew kw173 (4, 2) 2
def kw175 : mW := wsR kw174 (mSet (wR kw174) 43 66 (some 64))
def kw176 : mW := mNew kw175 (4, 2) 2
def kw177 : mW := wsR kw176 (mSet (wR kw176) 43 67 (some 65))
def kw178 : mW := mNew kw177 (3, 2) 2
def kw179 : mW := wsR kw178 (mSet (wR kw178) 43 68 (some 66))
def kw180 : mW := wsI kw179 (va_up (wI kw179) 46 (plainR (wI kw179 46)))
def kw181 : mW := wsI kw180 (va_up (wI kw180) 45 (fun j => if j < 590 then wI kw180 46 j else wI kw180 45 j))
def kw182 : mW := mNew kw181 (4, 1) 1
theorem copy_0 {α : Type} (f g : Nat → α) : (fun j => if j < 0 then f j else g j) = g := by
  funext j
  rw [if_neg (by omega)]
set_option maxRecDepth 20000 in
set_option maxHeartbeats 4000000 in
theorem ctor_w {S : Nat × (Nat → Int32)} {Q : mO → mW → Prop} (k : wp S 1300 0 23 [some (.ref mScr), some (.ref 0), some (.ref 43), some (.ref 67), some (.int (0 : Int32)), none, none] [] kw182 Q) : wp S 1300 0 0 (mIni 7 [.ref mScr]) [] mW0 Q := by
  show wp S 1300 0 0 [some (.ref mScr), none, none, none, none, none, none] [] kw0 Q
  refine wp_seg (C := gC0) (pc1 := 3) (Lo1 := [some (.ref mScr), none, none, none, none, none, none]) (st1' := [.ref 0]) (w1 := kw1) rfl 1 rfl ?_
  refine wp_seg (C := gC0) (pc1 := 4) (Lo1 := [some (.ref mScr), none, none, none, none, none, none]) (st1' := [.ref 0, .ref 0]) (w1 := kw1) rfl 1 rfl ?_
  refine wp_ci (mj := 98) (nn := 0) (a := 0) (as := []) (r := [.ref 0]) rfl rfl rfl ⟨rfl, by decide, by decide, by decide⟩ ?_
  show wp S 1299 98 0 [some (.ref 0)] [] kw1 _
  refine wp_seg (C := gC98) (pc1 := 8) (Lo1 := [some (.ref 0)]) (st1' := [.ref 1, .ref 0]) (w1 := kw2) rfl 4 rfl ?_
  refine wp_seg (C := gC98) (pc1 := 9) (Lo1 := [some (.ref 0)]) (st1' := [.ref 1, .ref 1, .ref 0]) (w1 := kw2) rfl 1 rfl ?_
  refine wp_ci (mj := 65) (nn := 1) (a := 1) (as := []) (r := [.ref 1, .ref 0]) rfl rfl rfl ⟨rfl, by decide, by decide, by decide⟩ ?_
  show wp S 1298 65 0 [some (.ref 1)] [] kw2 _
  refine wp_seg (C := gC65) (pc1 := 10) (Lo1 := [some (.ref 1)]) (st1' := [.ref 2, .ref 1]) (w1 := kw3) rfl 5 rfl ?_
  refine wp_seg (C := gC65) (pc1 := 13) (Lo1 := [some (.ref 1)]) (st1' := []) (w1 := kw4) rfl 1 rfl ?_
  refine wp_vret (mi := 65) (pc := 13) rfl rfl ?_
  refine ⟨rfl, ?_⟩
  show wp S 1299 98 12 [some (.ref 0)] [.ref 1, .ref 0] kw4 _
  refine wp_seg (C := gC98) (pc1 := 15) (Lo1 := [some (.ref 0)]) (st1' := []) (w1 := kw5) rfl 1 rfl ?_
  refine wp_seg (C := gC98) (pc1 := 19) (Lo1 := [some (.ref 0)]) (st1' := [.ref 3, .ref 0]) (w1 := kw6) rfl 2 rfl ?_
  refine wp_seg (C := gC98) (pc1 := 20) (Lo1 := [some (.ref 0)]) (st1' := [.ref 3, .ref 3, .ref 0]) (w1 := kw6) rfl 1 rfl ?_
  refine wp_ci (mj := 13) (nn := 1) (a := 3) (as := []) (r := [.ref 3, .ref 0]) rfl rfl rfl ⟨rfl, by decide, by decide, by decide⟩ ?_
  show wp S 1298 13 0 [some (.ref 3)] [] kw6 _
  refine wp_seg (C := gC13) (pc1 := 8) (Lo1 := [some (.ref 3)]) (st1' := [.ref 4, .ref 3]) (w1 := kw7) rfl 4 rfl ?_
  refine wp_seg (C := gC13) (pc1 := 9) (Lo1 := [some (.ref 3)]) (st1' := [.ref 4, .ref 4, .ref 3]) (w1 := kw7) rfl 1 rfl ?_
  refine wp_ci (mj := 20) (nn := 0) (a := 4) (as := []) (r := [.ref 4, .ref 3]) rfl rfl rfl ⟨rfl, by decide, by decide, by decide⟩ ?_
  show wp S 1297 20 0 [some (.ref 4)] [] kw7 _
  refine wp_seg (C := gC20) (pc1 := 9) (Lo1 := [some (.ref 4)]) (st1' := [.ref 5, .ref 4]) (w1 := kw8) rfl 5 rfl ?_
  refine wp_seg (C := gC20) (pc1 := 12) (Lo1 := [some (.ref 4)]) (st1' := []) (w1 := kw9) rfl 1 rfl ?_
  refine wp_seg (C := gC20) (pc1 := 17) (Lo1 := [some (.ref 4)]) (st1' := [.ref 6, .ref 4]) (w1 := kw10) rfl 3 rfl ?_
  refine wp_seg (C := gC20) (pc1 := 20) (Lo1 := [some (.ref 4)]) (st1' := []) (w1 := kw11) rfl 1 rfl ?_
  refine wp_seg (C := gC20) (pc1 := 25) (Lo1 := [some (.ref 4)]) (st1' := [.ref 7, .ref 4]) (w1 := kw12) rfl 3 rfl ?_
  refine wp_seg (C := gC20) (pc1 := 28) (Lo1 := [some (.ref 4)]) (st1' := []) (w1 := kw13) rfl 1 rfl ?_
  refine wp_seg (C := gC20) (pc1 := 33) (Lo1 := [some (.ref 4)]) (st1' := [.ref 8, .ref 4]) (w1 := kw14) rfl 3 rfl ?_
  refine wp_seg (C := gC20) (pc1 := 36) (Lo1 := [some (.ref 4)]) (st1' := []) (w1 := kw15) rfl 1 rfl ?_
  refine wp_seg (C := gC20) (pc1 := 41) (Lo1 := [some (.ref 4)]) (st1' := [.ref 9, .ref 4]) (w1 := kw16) rfl 3 rfl ?_
  refine wp_seg (C := gC20) (pc1 := 44) (Lo1 := [some (.ref 4)]) (st1' := []) (w1 := kw17) rfl 1 rfl ?_
  refine wp_seg (C := gC20) (pc1 := 50) (Lo1 := [some (.ref 4)]) (st1' := [.ref 10, .ref 4]) (w1 := kw18) rfl 3 rfl ?_
  refine wp_seg (C := gC20) (pc1 := 53) (Lo1 := [some (.ref 4)]) (st1' := []) (w1 := kw19) rfl 1 rfl ?_
  refine wp_seg (C := gC20) (pc1 := 59) (Lo1 := [some (.ref 4)]) (st1' := [.ref 11, .ref 4]) (w1 := kw20) rfl 3 rfl ?_
  refine wp_seg (C := gC20) (pc1 := 62) (Lo1 := [some (.ref 4)]) (st1' := []) (w1 := kw21) rfl 1 rfl ?_
  refine wp_seg (C := gC20) (pc1 := 63) (Lo1 := [some (.ref 4)]) (st1' := [.ref 4]) (w1 := kw21) rfl 1 rfl ?_
  refine wp_cv (mj := 21) (a := 4) (as := []) (r := []) rfl rfl rfl ⟨rfl, by decide, by decide, by decide⟩ rfl ?_
  show wp S 1296 21 0 [some (.ref 4)] [] kw21 _
  refine wp_seg (C := gC21) (pc1 := 5) (Lo1 := [some (.ref 4)]) (st1' := []) (w1 := kw22) rfl 3 rfl ?_
  refine wp_seg (C := gC21) (pc1 := 10) (Lo1 := [some (.ref 4)]) (st1' := []) (w1 := kw23) rfl 3 rfl ?_
  refine wp_seg (C := gC21) (pc1 := 15) (Lo1 := [some (.ref 4)]) (st1' := []) (w1 := kw24) rfl 3 rfl ?_
  refine wp_seg (C := gC21) (pc1 := 22) (Lo1 := [some (.ref 4)]) (st1' := []) (w1 := kw25) rfl 3 rfl ?_
  refine wp_seg (C := gC21) (pc1 := 27) (Lo1 := [some (.ref 4)]) (st1' := []) (w1 := kw26) rfl 3 rfl ?_
  refine wp_seg (C := gC21) (pc1 := 32) (Lo1 := [some (.ref 4)]) (st1' := []) (w1 := kw27) rfl 3 rfl ?_
  refine wp_seg (C := gC21) (pc1 := 37) (Lo1 := [some (.ref 4)]) (st1' := [.long (0 : Int64), .ref 6]) (w1 := kw27) rfl 3 rfl ?_
  refine wp_cs (mj := 251) (nn := 0) (as := [.ref 6, .long (0 : Int64)]) (r := []) rfl rfl rfl ⟨rfl, by decide, by decide, by decide⟩ (by decide) ?_
  refine fillJ (n := 6) rfl (by decide) ⟨none, rfl, ?_⟩
  show wp S 1296 21 40 [some (.ref 4)] [] kw28 _
  refine wp_seg (C := gC21) (pc1 := 46) (Lo1 := [some (.ref 4)]) (st1' := [.int (10 : Int32), .ref 7]) (w1 := kw28) rfl 3 rfl ?_
  refine wp_cs (mj := 252) (nn := 0) (as := [.ref 7, .int (10 : Int32)]) (r := []) rfl rfl rfl ⟨rfl, by decide, by decide, by decide⟩ (by decide) ?_
  refine fillI (n := 8) rfl (by decide) ⟨none, rfl, ?_⟩
  show wp S 1296 21 49 [some (.ref 4)] [] kw29 _
  refine wp_seg (C := gC21) (pc1 := 54) (Lo1 := [some (.ref 4)]) (st1' := [.int (-1 : Int32), .ref 8]) (w1 := kw29) rfl 3 rfl ?_
  refine wp_cs (mj := 252) (nn := 0) (as := [.ref 8, .int (-1 : Int32)]) (r := []) rfl rfl rfl ⟨rfl, by decide, by decide, by decide⟩ (by decide) ?_
  refine fillI (n := 8) rfl (by decide) ⟨none, rfl, ?_⟩
  show wp S 1296 21 57 [some (.ref 4)] [] kw30 _
  refine wp_seg (C := gC21) (pc1 := 62) (Lo1 := [some (.ref 4)]) (st1' := [.int (-1 : Int32), .ref 9]) (w1 := kw30) rfl 3 rfl ?_
  refine wp_cs (mj := 252) (nn := 0) (as := [.ref 9, .int (-1 : Int32)]) (r := []) rfl rfl rfl ⟨rfl, by decide, by decide, by decide⟩ (by decide) ?_
  refine fillI (n := 12) rfl (by decide) ⟨none, rfl, ?_⟩
  show wp S 1296 21 65 [some (.ref 4)] [] kw31 _
  refine wp_vret (mi := 21) (pc := 65) rfl rfl ?_
  refine ⟨none, rfl, ?_⟩
  show wp S 1297 20 66 [some (.ref 4)] [] kw31 _
  refine wp_vret (mi := 20) (pc := 66) rfl rfl ?_
  refine ⟨rfl, ?_⟩
  show wp S 1298 13 12 [some (.ref 3)] [.ref 4, .ref 3] kw31 _
  refine wp_seg (C := gC13) (pc1 := 15) (Lo1 := [some (.ref 3)]) (st1' := []) (w1 := kw32) rfl 1 rfl ?_
  refine wp_seg (C := gC13) (pc1 := 20) (Lo1 := [some (.ref 3)]) (st1' := [.ref 12, .ref 3]) (w1 := kw33) rfl 3 rfl ?_
  refine wp_seg (C := gC13) (pc1 := 23) (Lo1 := [some (.ref 3)]) (st1' := []) (w1 := kw34) rfl 1 rfl ?_
  refine wp_seg (C := gC13) (pc1 := 28) (Lo1 := [some (.ref 3)]) (st1' := [.ref 13, .ref 3]) (w1 := kw35) rfl 3 rfl ?_
  refine wp_seg (C := gC13) (pc1 := 31) (Lo1 := [some (.ref 3)]) (st1' := []) (w1 := kw36) rfl 1 rfl ?_
  refine wp_seg (C := gC13) (pc1 := 36) (Lo1 := [some (.ref 3)]) (st1' := [.ref 14, .ref 3]) (w1 := kw37) rfl 3 rfl ?_
  refine wp_seg (C := gC13) (pc1 := 39) (Lo1 := [some (.ref 3)]) (st1' := []) (w1 := kw38) rfl 1 rfl ?_
  refine wp_vret (mi := 13) (pc := 39) rfl rfl ?_
  refine ⟨rfl, ?_⟩
  show wp S 1299 98 23 [some (.ref 0)] [.ref 3, .ref 0] kw38 _
  refine wp_seg (C := gC98) (pc1 := 26) (Lo1 := [some (.ref 0)]) (st1' := []) (w1 := kw39) rfl 1 rfl ?_
  refine wp_seg (C := gC98) (pc1 := 30) (Lo1 := [some (.ref 0)]) (st1' := [.ref 15, .ref 0]) (w1 := kw40) rfl 2 rfl ?_
  refine wp_seg (C := gC98) (pc1 := 31) (Lo1 := [some (.ref 0)]) (st1' := [.ref 15, .ref 15, .ref 0]) (w1 := kw40) rfl 1 rfl ?_
  refine wp_ci (mj := 13) (nn := 1) (a := 15) (as := []) (r := [.ref 15, .ref 0]) rfl rfl rfl ⟨rfl, by decide, by decide, by decide⟩ ?_
  show wp S 1298 13 0 [some (.ref 15)] [] kw40 _
  refine wp_seg (C := gC13) (pc1 := 8) (Lo1 := [some (.ref 15)]) (st1' := [.ref 16, .ref 15]) (w1 := kw41) rfl 4 rfl ?_
  refine wp_seg (C := gC13) (pc1 := 9) (Lo1 := [some (.ref 15)]) (st1' := [.ref 16, .ref 16, .ref 15]) (w1 := kw41) rfl 1 rfl ?_
  refine wp_ci (mj := 20) (nn := 0) (a := 16) (as := []) (r := [.ref 16, .ref 15]) rfl rfl rfl ⟨rfl, by decide, by decide, by decide⟩ ?_
  show wp S 1297 20 0 [some (.ref 16)] [] kw41 _
  refine wp_seg (C := gC20) (pc1 := 9) (Lo1 := [some (.ref 16)]) (st1' := [.ref 17, .ref 16]) (w1 := kw42) rfl 5 rfl ?_
  refine wp_seg (C := gC20) (pc1 := 12) (Lo1 := [some (.ref 16)]) (st1' := []) (w1 := kw43) rfl 1 rfl ?_
  refine wp_seg (C := gC20) (pc1 := 17) (Lo1 := [some (.ref 16)]) (st1' := [.ref 18, .ref 16]) (w1 := kw44) rfl 3 rfl ?_
  refine wp_seg (C := gC20) (pc1 := 20) (Lo1 := [some (.ref 16)]) (st1' := []) (w1 := kw45) rfl 1 rfl ?_
  refine wp_seg (C := gC20) (pc1 := 25) (Lo1 := [some (.ref 16)]) (st1' := [.ref 19, .ref 16]) (w1 := kw46) rfl 3 rfl ?_
  refine wp_seg (C := gC20) (pc1 := 28) (Lo1 := [some (.ref 16)]) (st1' := []) (w1 := kw47) rfl 1 rfl ?_
  refine wp_seg (C := gC20) (pc1 := 33) (Lo1 := [some (.ref 16)]) (st1' := [.ref 20, .ref 16]) (w1 := kw48) rfl 3 rfl ?_
  refine wp_seg (C := gC20) (pc1 := 36) (Lo1 := [some (.ref 16)]) (st1' := []) (w1 := kw49) rfl 1 rfl ?_
  refine wp_seg (C := gC20) (pc1 := 41) (Lo1 := [some (.ref 16)]) (st1' := [.ref 21, .ref 16]) (w1 := kw50) rfl 3 rfl ?_
  refine wp_seg (C := gC20) (pc1 := 44) (Lo1 := [some (.ref 16)]) (st1' := []) (w1 := kw51) rfl 1 rfl ?_
  refine wp_seg (C := gC20) (pc1 := 50) (Lo1 := [some (.ref 16)]) (st1' := [.ref 22, .ref 16]) (w1 := kw52) rfl 3 rfl ?_
  refine wp_seg (C := gC20) (pc1 := 53) (Lo1 := [some (.ref 16)]) (st1' := []) (w1 := kw53) rfl 1 rfl ?_
  refine wp_seg (C := gC20) (pc1 := 59) (Lo1 := [some (.ref 16)]) (st1' := [.ref 23, .ref 16]) (w1 := kw54) rfl 3 rfl ?_
  refine wp_seg (C := gC20) (pc1 := 62) (Lo1 := [some (.ref 16)]) (st1' := []) (w1 := kw55) rfl 1 rfl ?_
  refine wp_seg (C := gC20) (pc1 := 63) (Lo1 := [some (.ref 16)]) (st1' := [.ref 16]) (w1 := kw55) rfl 1 rfl ?_
  refine wp_cv (mj := 21) (a := 16) (as := []) (r := []) rfl rfl rfl ⟨rfl, by decide, by decide, by decide⟩ rfl ?_
  show wp S 1296 21 0 [some (.ref 16)] [] kw55 _
  refine wp_seg (C := gC21) (pc1 := 5) (Lo1 := [some (.ref 16)]) (st1' := []) (w1 := kw56) rfl 3 rfl ?_
  refine wp_seg (C := gC21) (pc1 := 10) (Lo1 := [some (.ref 16)]) (st1' := []) (w1 := kw57) rfl 3 rfl ?_
  refine wp_seg (C := gC21) (pc1 := 15) (Lo1 := [some (.ref 16)]) (st1' := []) (w1 := kw58) rfl 3 rfl ?_
  refine wp_seg (C := gC21) (pc1 := 22) (Lo1 := [some (.ref 16)]) (st1' := []) (w1 := kw59) rfl 3 rfl ?_
  refine wp_seg (C := gC21) (pc1 := 27) (Lo1 := [some (.ref 16)]) (st1' := []) (w1 := kw60) rfl 3 rfl ?_
  refine wp_seg (C := gC21) (pc1 := 32) (Lo1 := [some (.ref 16)]) (st1' := []) (w1 := kw61) rfl 3 rfl ?_
  refine wp_seg (C := gC21) (pc1 := 37) (Lo1 := [some (.ref 16)]) (st1' := [.long (0 : Int64), .ref 18]) (w1 := kw61) rfl 3 rfl ?_
  refine wp_cs (mj := 251) (nn := 0) (as := [.ref 18, .long (0 : Int64)]) (r := []) rfl rfl rfl ⟨rfl, by decide, by decide, by decide⟩ (by decide) ?_
  refine fillJ (n := 6) rfl (by decide) ⟨none, rfl, ?_⟩
  show wp S 1296 21 40 [some (.ref 16)] [] kw62 _
  refine wp_seg (C := gC21) (pc1 := 46) (Lo1 := [some (.ref 16)]) (st1' := [.int (10 : Int32), .ref 19]) (w1 := kw62) rfl 3 rfl ?_
  refine wp_cs (mj := 252) (nn := 0) (as := [.ref 19, .int (10 : Int32)]) (r := []) rfl rfl rfl ⟨rfl, by decide, by decide, by decide⟩ (by decide) ?_
  refine fillI (n := 8) rfl (by decide) ⟨none, rfl, ?_⟩
  show wp S 1296 21 49 [some (.ref 16)] [] kw63 _
  refine wp_seg (C := gC21) (pc1 := 54) (Lo1 := [some (.ref 16)]) (st1' := [.int (-1 : Int32), .ref 20]) (w1 := kw63) rfl 3 rfl ?_
  refine wp_cs (mj := 252) (nn := 0) (as := [.ref 20, .int (-1 : Int32)]) (r := []) rfl rfl rfl ⟨rfl, by decide, by decide, by decide⟩ (by decide) ?_
  refine fillI (n := 8) rfl (by decide) ⟨none, rfl, ?_⟩
  show wp S 1296 21 57 [some (.ref 16)] [] kw64 _
  refine wp_seg (C := gC21) (pc1 := 62) (Lo1 := [some (.ref 16)]) (st1' := [.int (-1 : Int32), .ref 21]) (w1 := kw64) rfl 3 rfl ?_
  refine wp_cs (mj := 252) (nn := 0) (as := [.ref 21, .int (-1 : Int32)]) (r := []) rfl rfl rfl ⟨rfl, by decide, by decide, by decide⟩ (by decide) ?_
  refine fillI (n := 12) rfl (by decide) ⟨none, rfl, ?_⟩
  show wp S 1296 21 65 [some (.ref 16)] [] kw65 _
  refine wp_vret (mi := 21) (pc := 65) rfl rfl ?_
  refine ⟨none, rfl, ?_⟩
  show wp S 1297 20 66 [some (.ref 16)] [] kw65 _
  refine wp_vret (mi := 20) (pc := 66) rfl rfl ?_
  refine ⟨rfl, ?_⟩
  show wp S 1298 13 12 [some (.ref 15)] [.ref 16, .ref 15] kw65 _
  refine wp_seg (C := gC13) (pc1 := 15) (Lo1 := [some (.ref 15)]) (st1' := []) (w1 := kw66) rfl 1 rfl ?_
  refine wp_seg (C := gC13) (pc1 := 20) (Lo1 := [some (.ref 15)]) (st1' := [.ref 24, .ref 15]) (w1 := kw67) rfl 3 rfl ?_
  refine wp_seg (C := gC13) (pc1 := 23) (Lo1 := [some (.ref 15)]) (st1' := []) (w1 := kw68) rfl 1 rfl ?_
  refine wp_seg (C := gC13) (pc1 := 28) (Lo1 := [some (.ref 15)]) (st1' := [.ref 25, .ref 15]) (w1 := kw69) rfl 3 rfl ?_
  refine wp_seg (C := gC13) (pc1 := 31) (Lo1 := [some (.ref 15)]) (st1' := []) (w1 := kw70) rfl 1 rfl ?_
  refine wp_seg (C := gC13) (pc1 := 36) (Lo1 := [some (.ref 15)]) (st1' := [.ref 26, .ref 15]) (w1 := kw71) rfl 3 rfl ?_
  refine wp_seg (C := gC13) (pc1 := 39) (Lo1 := [some (.ref 15)]) (st1' := []) (w1 := kw72) rfl 1 rfl ?_
  refine wp_vret (mi := 13) (pc := 39) rfl rfl ?_
  refine ⟨rfl, ?_⟩
  show wp S 1299 98 34 [some (.ref 0)] [.ref 15, .ref 0] kw72 _
  refine wp_seg (C := gC98) (pc1 := 37) (Lo1 := [some (.ref 0)]) (st1' := []) (w1 := kw73) rfl 1 rfl ?_
  refine wp_seg (C := gC98) (pc1 := 42) (Lo1 := [some (.ref 0)]) (st1' := [.ref 27, .ref 0]) (w1 := kw74) rfl 3 rfl ?_
  refine wp_seg (C := gC98) (pc1 := 45) (Lo1 := [some (.ref 0)]) (st1' := []) (w1 := kw75) rfl 1 rfl ?_
  refine wp_seg (C := gC98) (pc1 := 49) (Lo1 := [some (.ref 0)]) (st1' := [.ref 28, .ref 0]) (w1 := kw76) rfl 2 rfl ?_
  refine wp_seg (C := gC98) (pc1 := 54) (Lo1 := [some (.ref 0)]) (st1' := [.ref 1, .ref 28, .ref 28, .ref 0]) (w1 := kw76) rfl 3 rfl ?_
  refine wp_ci (mj := 68) (nn := 0) (a := 28) (as := [.ref 1]) (r := [.ref 28, .ref 0]) rfl rfl rfl ⟨rfl, by decide, by decide, by decide⟩ ?_
  show wp S 1298 68 0 [some (.ref 28), some (.ref 1)] [] kw76 _
  refine wp_seg (C := gC68) (pc1 := 12) (Lo1 := [some (.ref 28), some (.ref 1)]) (st1' := []) (w1 := kw77) rfl 6 rfl ?_
  refine wp_vret (mi := 68) (pc := 12) rfl rfl ?_
  refine ⟨rfl, ?_⟩
  show wp S 1299 98 57 [some (.ref 0)] [.ref 28, .ref 0] kw77 _
  refine wp_seg (C := gC98) (pc1 := 60) (Lo1 := [some (.ref 0)]) (st1' := []) (w1 := kw78) rfl 1 rfl ?_
  refine wp_seg (C := gC98) (pc1 := 64) (Lo1 := [some (.ref 0)]) (st1' := [.ref 29, .ref 0]) (w1 := kw79) rfl 2 rfl ?_
  refine wp_seg (C := gC98) (pc1 := 76) (Lo1 := [some (.ref 0)]) (st1' := [.ref 16, .ref 28, .ref 29, .ref 29, .ref 0]) (w1 := kw79) rfl 6 rfl ?_
  refine wp_ci (mj := 35) (nn := 0) (a := 29) (as := [.ref 28, .ref 16]) (r := [.ref 29, .ref 0]) rfl rfl rfl ⟨rfl, by decide, by decide, by decide⟩ ?_
  show wp S 1298 35 0 [some (.ref 29), some (.ref 28), some (.ref 16)] [] kw79 _
  refine wp_seg (C := gC35) (pc1 := 9) (Lo1 := [some (.ref 29), some (.ref 28), some (.ref 16)]) (st1' := []) (w1 := kw80) rfl 5 rfl ?_
  refine wp_seg (C := gC35) (pc1 := 14) (Lo1 := [some (.ref 29), some (.ref 28), some (.ref 16)]) (st1' := []) (w1 := kw81) rfl 3 rfl ?_
  refine wp_vret (mi := 35) (pc := 14) rfl rfl ?_
  refine ⟨rfl, ?_⟩
  show wp S 1299 98 79 [some (.ref 0)] [.ref 29, .ref 0] kw81 _
  refine wp_seg (C := gC98) (pc1 := 82) (Lo1 := [some (.ref 0)]) (st1' := []) (w1 := kw82) rfl 1 rfl ?_
  refine wp_seg (C := gC98) (pc1 := 86) (Lo1 := [some (.ref 0)]) (st1' := [.ref 30, .ref 0]) (w1 := kw83) rfl 2 rfl ?_
  refine wp_seg (C := gC98) (pc1 := 102) (Lo1 := [some (.ref 0)]) (st1' := [.ref 15, .ref 4, .ref 28, .ref 30, .ref 30, .ref 0]) (w1 := kw83) rfl 8 rfl ?_
  refine wp_ci (mj := 1) (nn := 0) (a := 30) (as := [.ref 28, .ref 4, .ref 15]) (r := [.ref 30, .ref 0]) rfl rfl rfl ⟨rfl, by decide, by decide, by decide⟩ ?_
  show wp S 1298 1 0 [some (.ref 30), some (.ref 28), some (.ref 4), some (.ref 15)] [] kw83 _
  refine wp_seg (C := gC1) (pc1 := 9) (Lo1 := [some (.ref 30), some (.ref 28), some (.ref 4), some (.ref 15)]) (st1' := []) (w1 := kw84) rfl 5 rfl ?_
  refine wp_seg (C := gC1) (pc1 := 14) (Lo1 := [some (.ref 30), some (.ref 28), some (.ref 4), some (.ref 15)]) (st1' := []) (w1 := kw85) rfl 3 rfl ?_
  refine wp_seg (C := gC1) (pc1 := 19) (Lo1 := [some (.ref 30), some (.ref 28), some (.ref 4), some (.ref 15)]) (st1' := []) (w1 := kw86) rfl 3 rfl ?_
  refine wp_vret (mi := 1) (pc := 19) rfl rfl ?_
  refine ⟨rfl, ?_⟩
  show wp S 1299 98 105 [some (.ref 0)] [.ref 30, .ref 0] kw86 _
  refine wp_seg (C := gC98) (pc1 := 108) (Lo1 := [some (.ref 0)]) (st1' := []) (w1 := kw87) rfl 1 rfl ?_
  refine wp_seg (C := gC98) (pc1 := 112) (Lo1 := [some (.ref 0)]) (st1' := [.ref 31, .ref 0]) (w1 := kw88) rfl 2 rfl ?_
  refine wp_seg (C := gC98) (pc1 := 117) (Lo1 := [some (.ref 0)]) (st1' := [.ref 3, .ref 31, .ref 31, .ref 0]) (w1 := kw88) rfl 3 rfl ?_
  refine wp_ci (mj := 5) (nn := 0) (a := 31) (as := [.ref 3]) (r := [.ref 31, .ref 0]) rfl rfl rfl ⟨rfl, by decide, by decide, by decide⟩ ?_
  show wp S 1298 5 0 [some (.ref 31), some (.ref 3)] [] kw88 _
  refine wp_seg (C := gC5) (pc1 := 10) (Lo1 := [some (.ref 31), some (.ref 3)]) (st1' := [.ref 32, .ref 31]) (w1 := kw89) rfl 5 rfl ?_
  refine wp_seg (C := gC5) (pc1 := 13) (Lo1 := [some (.ref 31), some (.ref 3)]) (st1' := []) (w1 := kw90) rfl 1 rfl ?_
  refine wp_seg (C := gC5) (pc1 := 19) (Lo1 := [some (.ref 31), some (.ref 3)]) (st1' := [.ref 33, .ref 31]) (w1 := kw91) rfl 3 rfl ?_
  refine wp_seg (C := gC5) (pc1 := 22) (Lo1 := [some (.ref 31), some (.ref 3)]) (st1' := []) (w1 := kw92) rfl 1 rfl ?_
  refine wp_seg (C := gC5) (pc1 := 28) (Lo1 := [some (.ref 31), some (.ref 3)]) (st1' := [.ref 34, .ref 31]) (w1 := kw93) rfl 3 rfl ?_
  refine wp_seg (C := gC5) (pc1 := 31) (Lo1 := [some (.ref 31), some (.ref 3)]) (st1' := []) (w1 := kw94) rfl 1 rfl ?_
  refine wp_seg (C := gC5) (pc1 := 37) (Lo1 := [some (.ref 31), some (.ref 3)]) (st1' := [.ref 35, .ref 31]) (w1 := kw95) rfl 3 rfl ?_
  refine wp_seg (C := gC5) (pc1 := 40) (Lo1 := [some (.ref 31), some (.ref 3)]) (st1' := []) (w1 := kw96) rfl 1 rfl ?_
  refine wp_seg (C := gC5) (pc1 := 45) (Lo1 := [some (.ref 31), some (.ref 3)]) (st1' := []) (w1 := kw97) rfl 3 rfl ?_
  refine wp_seg (C := gC5) (pc1 := 49) (Lo1 := [some (.ref 31), some (.ref 3)]) (st1' := [.ref 36, .ref 31]) (w1 := kw98) rfl 2 rfl ?_
  refine wp_seg (C := gC5) (pc1 := 51) (Lo1 := [some (.ref 31), some (.ref 3)]) (st1' := [.ref 3, .ref 36, .ref 36, .ref 31]) (w1 := kw98) rfl 2 rfl ?_
  refine wp_ci (mj := 49) (nn := 0) (a := 36) (as := [.ref 3]) (r := [.ref 36, .ref 31]) rfl rfl rfl ⟨rfl, by decide, by decide, by decide⟩ ?_
  show wp S 1297 49 0 [some (.ref 36), some (.ref 3)] [] kw98 _
  refine wp_seg (C := gC49) (pc1 := 9) (Lo1 := [some (.ref 36), some (.ref 3)]) (st1' := []) (w1 := kw99) rfl 5 rfl ?_
  refine wp_seg (C := gC49) (pc1 := 17) (Lo1 := [some (.ref 36), some (.ref 3)]) (st1' := []) (w1 := kw100) rfl 4 rfl ?_
  refine wp_vret (mi := 49) (pc := 17) rfl rfl ?_
  refine ⟨rfl, ?_⟩
  show wp S 1298 5 54 [some (.ref 31), some (.ref 3)] [.ref 36, .ref 31] kw100 _
  refine wp_seg (C := gC5) (pc1 := 57) (Lo1 := [some (.ref 31), some (.ref 3)]) (st1' := []) (w1 := kw101) rfl 1 rfl ?_
  refine wp_vret (mi := 5) (pc := 57) rfl rfl ?_
  refine ⟨rfl, ?_⟩
  show wp S 1299 98 120 [some (.ref 0)] [.ref 31, .ref 0] kw101 _
  refine wp_seg (C := gC98) (pc1 := 123) (Lo1 := [some (.ref 0)]) (st1' := []) (w1 := kw102) rfl 1 rfl ?_
  refine wp_seg (C := gC98) (pc1 := 127) (Lo1 := [some (.ref 0)]) (st1' := [.ref 37, .ref 0]) (w1 := kw103) rfl 2 rfl ?_
  refine wp_seg (C := gC98) (pc1 := 136) (Lo1 := [some (.ref 0)]) (st1' := [.ref 1, .ref 3, .ref 37, .ref 37, .ref 0]) (w1 := kw103) rfl 5 rfl ?_
  refine wp_ci (mj := 79) (nn := 0) (a := 37) (as := [.ref 3, .ref 1]) (r := [.ref 37, .ref 0]) rfl rfl rfl ⟨rfl, by decide, by decide, by decide⟩ ?_
  show wp S 1298 79 0 [some (.ref 37), some (.ref 3), some (.ref 1)] [] kw103 _
  refine wp_seg (C := gC79) (pc1 := 10) (Lo1 := [some (.ref 37), some (.ref 3), some (.ref 1)]) (st1' := [.ref 38, .ref 37]) (w1 := kw104) rfl 5 rfl ?_
  refine wp_seg (C := gC79) (pc1 := 13) (Lo1 := [some (.ref 37), some (.ref 3), some (.ref 1)]) (st1' := []) (w1 := kw105) rfl 1 rfl ?_
  refine wp_seg (C := gC79) (pc1 := 19) (Lo1 := [some (.ref 37), some (.ref 3), some (.ref 1)]) (st1' := [.ref 39, .ref 37]) (w1 := kw106) rfl 3 rfl ?_
  refine wp_seg (C := gC79) (pc1 := 22) (Lo1 := [some (.ref 37), some (.ref 3), some (.ref 1)]) (st1' := []) (w1 := kw107) rfl 1 rfl ?_
  refine wp_seg (C := gC79) (pc1 := 27) (Lo1 := [some (.ref 37), some (.ref 3), some (.ref 1)]) (st1' := [.ref 40, .ref 37]) (w1 := kw108) rfl 3 rfl ?_
  refine wp_seg (C := gC79) (pc1 := 30) (Lo1 := [some (.ref 37), some (.ref 3), some (.ref 1)]) (st1' := []) (w1 := kw109) rfl 1 rfl ?_
  refine wp_seg (C := gC79) (pc1 := 35) (Lo1 := [some (.ref 37), some (.ref 3), some (.ref 1)]) (st1' := []) (w1 := kw110) rfl 3 rfl ?_
  refine wp_seg (C := gC79) (pc1 := 40) (Lo1 := [some (.ref 37), some (.ref 3), some (.ref 1)]) (st1' := []) (w1 := kw111) rfl 3 rfl ?_
  refine wp_seg (C := gC79) (pc1 := 45) (Lo1 := [some (.ref 37), some (.ref 3), some (.ref 1)]) (st1' := []) (w1 := kw112) rfl 3 rfl ?_
  refine wp_seg (C := gC79) (pc1 := 50) (Lo1 := [some (.ref 37), some (.ref 3), some (.ref 1)]) (st1' := []) (w1 := kw113) rfl 3 rfl ?_
  refine wp_seg (C := gC79) (pc1 := 55) (Lo1 := [some (.ref 37), some (.ref 3), some (.ref 1)]) (st1' := []) (w1 := kw114) rfl 3 rfl ?_
  refine wp_seg (C := gC79) (pc1 := 60) (Lo1 := [some (.ref 37), some (.ref 3), some (.ref 1)]) (st1' := []) (w1 := kw115) rfl 3 rfl ?_
  refine wp_seg (C := gC79) (pc1 := 65) (Lo1 := [some (.ref 37), some (.ref 3), some (.ref 1)]) (st1' := []) (w1 := kw116) rfl 3 rfl ?_
  refine wp_seg (C := gC79) (pc1 := 73) (Lo1 := [some (.ref 37), some (.ref 3), some (.ref 1)]) (st1' := []) (w1 := kw117) rfl 4 rfl ?_
  refine wp_seg (C := gC79) (pc1 := 77) (Lo1 := [some (.ref 37), some (.ref 3), some (.ref 1)]) (st1' := [.ref 41, .ref 37]) (w1 := kw118) rfl 2 rfl ?_
  refine wp_seg (C := gC79) (pc1 := 79) (Lo1 := [some (.ref 37), some (.ref 3), some (.ref 1)]) (st1' := [.ref 3, .ref 41, .ref 41, .ref 37]) (w1 := kw118) rfl 2 rfl ?_
  refine wp_ci (mj := 49) (nn := 0) (a := 41) (as := [.ref 3]) (r := [.ref 41, .ref 37]) rfl rfl rfl ⟨rfl, by decide, by decide, by decide⟩ ?_
  show wp S 1297 49 0 [some (.ref 41), some (.ref 3)] [] kw118 _
  refine wp_seg (C := gC49) (pc1 := 9) (Lo1 := [some (.ref 41), some (.ref 3)]) (st1' := []) (w1 := kw119) rfl 5 rfl ?_
  refine wp_seg (C := gC49) (pc1 := 17) (Lo1 := [some (.ref 41), some (.ref 3)]) (st1' := []) (w1 := kw120) rfl 4 rfl ?_
  refine wp_vret (mi := 49) (pc := 17) rfl rfl ?_
  refine ⟨rfl, ?_⟩
  show wp S 1298 79 82 [some (.ref 37), some (.ref 3), some (.ref 1)] [.ref 41, .ref 37] kw120 _
  refine wp_seg (C := gC79) (pc1 := 85) (Lo1 := [some (.ref 37), some (.ref 3), some (.ref 1)]) (st1' := []) (w1 := kw121) rfl 1 rfl ?_
  refine wp_seg (C := gC79) (pc1 := 89) (Lo1 := [some (.ref 37), some (.ref 3), some (.ref 1)]) (st1' := [.ref 42, .ref 37]) (w1 := kw122) rfl 2 rfl ?_
  refine wp_seg (C := gC79) (pc1 := 91) (Lo1 := [some (.ref 37), some (.ref 3), some (.ref 1)]) (st1' := [.ref 3, .ref 42, .ref 42, .ref 37]) (w1 := kw122) rfl 2 rfl ?_
  refine wp_ci (mj := 49) (nn := 0) (a := 42) (as := [.ref 3]) (r := [.ref 42, .ref 37]) rfl rfl rfl ⟨rfl, by decide, by decide, by decide⟩ ?_
  show wp S 1297 49 0 [some (.ref 42), some (.ref 3)] [] kw122 _
  refine wp_seg (C := gC49) (pc1 := 9) (Lo1 := [some (.ref 42), some (.ref 3)]) (st1' := []) (w1 := kw123) rfl 5 rfl ?_
  refine wp_seg (C := gC49) (pc1 := 17) (Lo1 := [some (.ref 42), some (.ref 3)]) (st1' := []) (w1 := kw124) rfl 4 rfl ?_
  refine wp_vret (mi := 49) (pc := 17) rfl rfl ?_
  refine ⟨rfl, ?_⟩
  show wp S 1298 79 94 [some (.ref 37), some (.ref 3), some (.ref 1)] [.ref 42, .ref 37] kw124 _
  refine wp_seg (C := gC79) (pc1 := 97) (Lo1 := [some (.ref 37), some (.ref 3), some (.ref 1)]) (st1' := []) (w1 := kw125) rfl 1 rfl ?_
  refine wp_vret (mi := 79) (pc := 97) rfl rfl ?_
  refine ⟨rfl, ?_⟩
  show wp S 1299 98 139 [some (.ref 0)] [.ref 37, .ref 0] kw125 _
  refine wp_seg (C := gC98) (pc1 := 142) (Lo1 := [some (.ref 0)]) (st1' := []) (w1 := kw126) rfl 1 rfl ?_
  refine wp_seg (C := gC98) (pc1 := 147) (Lo1 := [some (.ref 0)]) (st1' := []) (w1 := kw127) rfl 3 rfl ?_
  refine wp_seg (C := gC98) (pc1 := 152) (Lo1 := [some (.ref 0)]) (st1' := []) (w1 := kw128) rfl 3 rfl ?_
  refine wp_vret (mi := 98) (pc := 152) rfl rfl ?_
  refine ⟨rfl, ?_⟩
  show wp S 1300 0 7 [some (.ref mScr), none, none, none, none, none, none] [.ref 0] kw128 _
  refine wp_seg (C := gC0) (pc1 := 11) (Lo1 := [some (.ref mScr), some (.ref 0), none, none, none, none, none]) (st1' := [.ref 43]) (w1 := kw129) rfl 2 rfl ?_
  refine wp_seg (C := gC0) (pc1 := 12) (Lo1 := [some (.ref mScr), some (.ref 0), none, none, none, none, none]) (st1' := [.ref 43, .ref 43]) (w1 := kw129) rfl 1 rfl ?_
  refine wp_ci (mj := 156) (nn := 0) (a := 43) (as := []) (r := [.ref 43]) rfl rfl rfl ⟨rfl, by decide, by decide, by decide⟩ ?_
  show wp S 1299 156 0 [some (.ref 43), none] [] kw129 _
  refine wp_seg (C := gC156) (pc1 := 10) (Lo1 := [some (.ref 43), none]) (st1' := [.ref 44, .ref 43]) (w1 := kw130) rfl 5 rfl ?_
  refine wp_seg (C := gC156) (pc1 := 13) (Lo1 := [some (.ref 43), none]) (st1' := []) (w1 := kw131) rfl 1 rfl ?_
  refine wp_seg (C := gC156) (pc1 := 19) (Lo1 := [some (.ref 43), none]) (st1' := [.ref 45, .ref 43]) (w1 := kw132) rfl 3 rfl ?_
  refine wp_seg (C := gC156) (pc1 := 22) (Lo1 := [some (.ref 43), none]) (st1' := []) (w1 := kw133) rfl 1 rfl ?_
  refine wp_seg (C := gC156) (pc1 := 28) (Lo1 := [some (.ref 43), none]) (st1' := [.ref 46, .ref 43]) (w1 := kw134) rfl 3 rfl ?_
  refine wp_seg (C := gC156) (pc1 := 31) (Lo1 := [some (.ref 43), none]) (st1' := []) (w1 := kw135) rfl 1 rfl ?_
  refine wp_seg (C := gC156) (pc1 := 36) (Lo1 := [some (.ref 43), none]) (st1' := [.ref 47, .ref 43]) (w1 := kw136) rfl 3 rfl ?_
  refine wp_seg (C := gC156) (pc1 := 39) (Lo1 := [some (.ref 43), none]) (st1' := []) (w1 := kw137) rfl 1 rfl ?_
  refine wp_seg (C := gC156) (pc1 := 44) (Lo1 := [some (.ref 43), none]) (st1' := [.ref 48, .ref 43]) (w1 := kw138) rfl 3 rfl ?_
  refine wp_seg (C := gC156) (pc1 := 47) (Lo1 := [some (.ref 43), none]) (st1' := []) (w1 := kw139) rfl 1 rfl ?_
  refine wp_seg (C := gC156) (pc1 := 52) (Lo1 := [some (.ref 43), none]) (st1' := [.ref 49, .ref 43]) (w1 := kw140) rfl 3 rfl ?_
  refine wp_seg (C := gC156) (pc1 := 55) (Lo1 := [some (.ref 43), none]) (st1' := []) (w1 := kw141) rfl 1 rfl ?_
  refine wp_seg (C := gC156) (pc1 := 60) (Lo1 := [some (.ref 43), none]) (st1' := [.ref 50, .ref 43]) (w1 := kw142) rfl 3 rfl ?_
  refine wp_seg (C := gC156) (pc1 := 63) (Lo1 := [some (.ref 43), none]) (st1' := []) (w1 := kw143) rfl 1 rfl ?_
  refine wp_seg (C := gC156) (pc1 := 69) (Lo1 := [some (.ref 43), none]) (st1' := [.ref 51, .ref 43]) (w1 := kw144) rfl 3 rfl ?_
  refine wp_seg (C := gC156) (pc1 := 72) (Lo1 := [some (.ref 43), none]) (st1' := []) (w1 := kw145) rfl 1 rfl ?_
  refine wp_seg (C := gC156) (pc1 := 77) (Lo1 := [some (.ref 43), none]) (st1' := []) (w1 := kw146) rfl 3 rfl ?_
  refine wp_seg (C := gC156) (pc1 := 83) (Lo1 := [some (.ref 43), none]) (st1' := [.ref 52, .ref 43]) (w1 := kw147) rfl 3 rfl ?_
  refine wp_seg (C := gC156) (pc1 := 86) (Lo1 := [some (.ref 43), none]) (st1' := []) (w1 := kw148) rfl 1 rfl ?_
  refine wp_seg (C := gC156) (pc1 := 92) (Lo1 := [some (.ref 43), none]) (st1' := [.ref 53, .ref 43]) (w1 := kw149) rfl 3 rfl ?_
  refine wp_seg (C := gC156) (pc1 := 95) (Lo1 := [some (.ref 43), none]) (st1' := []) (w1 := kw150) rfl 1 rfl ?_
  refine wp_seg (C := gC156) (pc1 := 101) (Lo1 := [some (.ref 43), none]) (st1' := [.ref 54, .ref 43]) (w1 := kw151) rfl 3 rfl ?_
  refine wp_seg (C := gC156) (pc1 := 104) (Lo1 := [some (.ref 43), none]) (st1' := []) (w1 := kw152) rfl 1 rfl ?_
  refine wp_seg (C := gC156) (pc1 := 110) (Lo1 := [some (.ref 43), none]) (st1' := [.ref 55, .ref 43]) (w1 := kw153) rfl 3 rfl ?_
  refine wp_seg (C := gC156) (pc1 := 113) (Lo1 := [some (.ref 43), none]) (st1' := []) (w1 := kw154) rfl 1 rfl ?_
  refine wp_seg (C := gC156) (pc1 := 118) (Lo1 := [some (.ref 43), none]) (st1' := [.ref 56, .ref 43]) (w1 := kw155) rfl 3 rfl ?_
  refine wp_seg (C := gC156) (pc1 := 121) (Lo1 := [some (.ref 43), none]) (st1' := []) (w1 := kw156) rfl 1 rfl ?_
  refine wp_seg (C := gC156) (pc1 := 126) (Lo1 := [some (.ref 43), none]) (st1' := []) (w1 := kw157) rfl 3 rfl ?_
  refine wp_seg (C := gC156) (pc1 := 132) (Lo1 := [some (.ref 43), none]) (st1' := [.ref 57, .ref 43]) (w1 := kw158) rfl 3 rfl ?_
  refine wp_seg (C := gC156) (pc1 := 135) (Lo1 := [some (.ref 43), none]) (st1' := []) (w1 := kw159) rfl 1 rfl ?_
  refine wp_seg (C := gC156) (pc1 := 141) (Lo1 := [some (.ref 43), none]) (st1' := [.ref 58, .ref 43]) (w1 := kw160) rfl 3 rfl ?_
  refine wp_seg (C := gC156) (pc1 := 144) (Lo1 := [some (.ref 43), none]) (st1' := []) (w1 := kw161) rfl 1 rfl ?_
  refine wp_seg (C := gC156) (pc1 := 149) (Lo1 := [some (.ref 43), none]) (st1' := [.ref 59, .ref 43]) (w1 := kw162) rfl 3 rfl ?_
  refine wp_seg (C := gC156) (pc1 := 152) (Lo1 := [some (.ref 43), none]) (st1' := []) (w1 := kw163) rfl 1 rfl ?_
  refine wp_seg (C := gC156) (pc1 := 156) (Lo1 := [some (.ref 43), none]) (st1' := [.ref 60, .ref 43]) (w1 := kw164) rfl 3 rfl ?_
  refine wp_seg (C := gC156) (pc1 := 159) (Lo1 := [some (.ref 43), none]) (st1' := []) (w1 := kw165) rfl 1 rfl ?_
  refine wp_seg (C := gC156) (pc1 := 164) (Lo1 := [some (.ref 43), none]) (st1' := []) (w1 := kw166) rfl 3 rfl ?_
  refine wp_seg (C := gC156) (pc1 := 169) (Lo1 := [some (.ref 43), none]) (st1' := []) (w1 := kw167) rfl 3 rfl ?_
  refine wp_seg (C := gC156) (pc1 := 174) (Lo1 := [some (.ref 43), none]) (st1' := [.ref 61, .ref 43]) (w1 := kw168) rfl 3 rfl ?_
  refine wp_seg (C := gC156) (pc1 := 177) (Lo1 := [some (.ref 43), none]) (st1' := []) (w1 := kw169) rfl 1 rfl ?_
  refine wp_seg (C := gC156) (pc1 := 182) (Lo1 := [some (.ref 43), none]) (st1' := [.ref 62, .ref 43]) (w1 := kw170) rfl 3 rfl ?_
  refine wp_seg (C := gC156) (pc1 := 185) (Lo1 := [some (.ref 43), none]) (st1' := []) (w1 := kw171) rfl 1 rfl ?_
  refine wp_seg (C := gC156) (pc1 := 191) (Lo1 := [some (.ref 43), none]) (st1' := [.ref 63, .ref 43]) (w1 := kw172) rfl 3 rfl ?_
  refine wp_seg (C := gC156) (pc1 := 194) (Lo1 := [some (.ref 43), none]) (st1' := []) (w1 := kw173) rfl 1 rfl ?_
  refine wp_seg (C := gC156) (pc1 := 198) (Lo1 := [some (.ref 43), none]) (st1' := [.ref 64, .ref 43]) (w1 := kw174) rfl 3 rfl ?_
  refine wp_seg (C := gC156) (pc1 := 201) (Lo1 := [some (.ref 43), none]) (st1' := []) (w1 := kw175) rfl 1 rfl ?_
  refine wp_seg (C := gC156) (pc1 := 205) (Lo1 := [some (.ref 43), none]) (st1' := [.ref 65, .ref 43]) (w1 := kw176) rfl 3 rfl ?_
  refine wp_seg (C := gC156) (pc1 := 208) (Lo1 := [some (.ref 43), none]) (st1' := []) (w1 := kw177) rfl 1 rfl ?_
  refine wp_seg (C := gC156) (pc1 := 212) (Lo1 := [some (.ref 43), none]) (st1' := [.ref 66, .ref 43]) (w1 := kw178) rfl 3 rfl ?_
  refine wp_seg (C := gC156) (pc1 := 215) (Lo1 := [some (.ref 43), none]) (st1' := []) (w1 := kw179) rfl 1 rfl ?_
  refine wp_seg (C := gC156) (pc1 := 216) (Lo1 := [some (.ref 43), none]) (st1' := [.ref 43]) (w1 := kw179) rfl 1 rfl ?_
  refine wp_cv (mj := 157) (a := 43) (as := []) (r := []) rfl rfl rfl ⟨rfl, by decide, by decide, by decide⟩ rfl ?_
  refine plainW (b := 46) rfl rfl rfl ⟨none, rfl, ?_⟩
  show wp S 1299 156 219 [some (.ref 43), none] [] kw180 _
  refine wp_seg (C := gC156) (pc1 := 221) (Lo1 := [some (.ref 43), some (.int (0 : Int32))]) (st1' := []) (w1 := kw180) rfl 2 rfl ?_
  have h := copy_lp (S := S) (d := 1299) (w := kw180) (b := 46) (c := 45) (Q := fun o w' => o = some none ∧ wp S 1300 0 15 [some (.ref mScr), some (.ref 0), none, none, none, none, none] [.ref 43] w' Q) (by decide) (by decide) rfl rfl rfl rfl rfl ⟨rfl, ?_⟩ 590 0 rfl
  · rw [copy_0, up_self] at h
    exact h
  show wp S 1300 0 15 [some (.ref mScr), some (.ref 0), none, none, none, none, none] [.ref 43] kw181 _
  refine wp_seg (C := gC0) (pc1 := 19) (Lo1 := [some (.ref mScr), some (.ref 0), some (.ref 43), none, none, none, none]) (st1' := [.ref 67]) (w1 := kw182) rfl 3 rfl ?_
  refine wp_seg (C := gC0) (pc1 := 23) (Lo1 := [some (.ref mScr), some (.ref 0), some (.ref 43), some (.ref 67), some (.int (0 : Int32)), none, none]) (st1' := []) (w1 := kw182) rfl 3 rfl ?_
  exact k
/-! the references of that world are the layout's -/
def rl : List (Nat × Nat × Nat) → Nat → Nat → Option Nat
  | [] => fun _ _ => none
  | (a, k, v) :: r => mSet (rl r) a k (some v)
theorem rl_none {n : Nat} : ∀ {ws : List (Nat × Nat × Nat)}, (∀ q ∈ ws, q.1 < n) → ∀ a, n ≤ a → rl ws a = fun _ => none
  | [], _, a, _ => rfl
  | (b, k, v) :: r, h, a, ha => by
    have h1 : b < n := h _ List.mem_cons_self
    show mSet (rl r) b k (some v) a = _
    unfold mSet va_up
    rw [if_neg (by omega)]
    exact rl_none (fun q hq => h q (List.mem_cons_of_mem _ hq)) a ha
theorem rl_far {n : Nat} : ∀ {ws : List (Nat × Nat × Nat)}, (∀ q ∈ ws, q.2.1 < n) → ∀ a k, n ≤ k → rl ws a k = none
  | [], _, a, k, _ => rfl
  | (b, j, v) :: r, h, a, k, hk => by
    have h1 : j < n := h _ List.mem_cons_self
    show mSet (rl r) b j (some v) a k = _
    unfold mSet va_up
    by_cases hb : a = b
    · subst hb
      rw [if_pos rfl, if_neg (by omega)]
      exact rl_far (fun q hq => h q (List.mem_cons_of_mem _ hq)) a k hk
    · rw [if_neg hb]
      exact rl_far (fun q hq => h q (List.mem_cons_of_mem _ hq)) a k hk
def RD (w : mW) (ws : List (Nat × Nat × Nat)) : Prop := wR w = rl ws ∧ ∀ q ∈ ws, q.1 < w.1.length
theorem RD_new {w : mW} {ws : List (Nat × Nat × Nat)} {q : Nat × Nat} {n : Nat} (h : RD w ws) : RD (mNew w q n) ws := by
  refine ⟨?_, fun z hz => ?_⟩
  · show va_up (wR w) w.1.length (fun _ => none) = rl ws
    rw [h.1, ← rl_none h.2 w.1.length (Nat.le_refl _), up_self]
  · show z.1 < (w.1 ++ [q]).length
    rw [List.length_append]
    have := h.2 z hz
    show z.1 < w.1.length + 1
    omega
theorem RD_R {w : mW} {ws : List (Nat × Nat × Nat)} {a k v : Nat} (h : RD w ws) (ha : a < w.1.length) : RD (wsR w (mSet (wR w) a k (some v))) ((a, k, v) :: ws) := by
  refine ⟨?_, fun z hz => ?_⟩
  · show mSet (wR w) a k (some v) = mSet (rl ws) a k (some v)
    rw [h.1]
  · rcases List.mem_cons.mp hz with rfl | hz
    · exact ha
    · exact h.2 z hz
theorem RD_I {w : mW} {ws : List (Nat × Nat × Nat)} {f : Nat → Nat → Int32} (h : RD w ws) : RD (wsI w f) ws := h
theorem RD_J {w : mW} {ws : List (Nat × Nat × Nat)} {f : Nat → Nat → Int64} (h : RD w ws) : RD (wsJ w f) ws := h
def ks0 : List (Nat × Nat × Nat) := []
theorem rd0 : RD kw0 ks0 := ⟨rfl, fun q hq => by cases hq⟩
theorem rd1 : RD kw1 ks0 := RD_new rd0
theorem rd2 : RD kw2 ks0 := RD_new rd1
theorem rd3 : RD kw3 ks0 := RD_new rd2
def ks4 : List (Nat × Nat × Nat) := (1, 0, 2) :: ks0
theorem rd4 : RD kw4 ks4 := RD_R rd3 (by decide +kernel)
def ks5 : List (Nat × Nat × Nat) := (0, 0, 1) :: ks4
theorem rd5 : RD kw5 ks5 := RD_R rd4 (by decide +kernel)
theorem rd6 : RD kw6 ks5 := RD_new rd5
theorem rd7 : RD kw7 ks5 := RD_new rd6
theorem rd8 : RD kw8 ks5 := RD_new rd7
def ks9 : List (Nat × Nat × Nat) := (4, 6, 5) :: ks5
theorem rd9 : RD kw9 ks9 := RD_R rd8 (by decide +kernel)
theorem rd10 : RD kw10 ks9 := RD_new rd9
def ks11 : List (Nat × Nat × Nat) := (4, 7, 6) :: ks9
theorem rd11 : RD kw11 ks11 := RD_R rd10 (by decide +kernel)
theorem rd12 : RD kw12 ks11 := RD_new rd11
def ks13 : List (Nat × Nat × Nat) := (4, 8, 7) :: ks11
theorem rd13 : RD kw13 ks13 := RD_R rd12 (by decide +kernel)
theorem rd14 : RD kw14 ks13 := RD_new rd13
def ks15 : List (Nat × Nat × Nat) := (4, 9, 8) :: ks13
theorem rd15 : RD kw15 ks15 := RD_R rd14 (by decide +kernel)
theorem rd16 : RD kw16 ks15 := RD_new rd15
def ks17 : List (Nat × Nat × Nat) := (4, 10, 9) :: ks15
theorem rd17 : RD kw17 ks17 := RD_R rd16 (by decide +kernel)
theorem rd18 : RD kw18 ks17 := RD_new rd17
def ks19 : List (Nat × Nat × Nat) := (4, 11, 10) :: ks17
theorem rd19 : RD kw19 ks19 := RD_R rd18 (by decide +kernel)
theorem rd20 : RD kw20 ks19 := RD_new rd19
def ks21 : List (Nat × Nat × Nat) := (4, 12, 11) :: ks19
theorem rd21 : RD kw21 ks21 := RD_R rd20 (by decide +kernel)
theorem rd22 : RD kw22 ks21 := RD_I rd21
theorem rd23 : RD kw23 ks21 := RD_I rd22
theorem rd24 : RD kw24 ks21 := RD_I rd23
theorem rd25 : RD kw25 ks21 := RD_I rd24
theorem rd26 : RD kw26 ks21 := RD_I rd25
theorem rd27 : RD kw27 ks21 := RD_J rd26
theorem rd28 : RD kw28 ks21 := RD_J rd27
theorem rd29 : RD kw29 ks21 := RD_I rd28
theorem rd30 : RD kw30 ks21 := RD_I rd29
theorem rd31 : RD kw31 ks21 := RD_I rd30
def ks32 : List (Nat × Nat × Nat) := (3, 0, 4) :: ks21
theorem rd32 : RD kw32 ks32 := RD_R rd31 (by decide +kernel)
theorem rd33 : RD kw33 ks32 := RD_new rd32
def ks34 : List (Nat × Nat × Nat) := (3, 1, 12) :: ks32
theorem rd34 : RD kw34 ks34 := RD_R rd33 (by decide +kernel)
theorem rd35 : RD kw35 ks34 := RD_new rd34
def ks36 : List (Nat × Nat × Nat) := (3, 2, 13) :: ks34
theorem rd36 : RD kw36 ks36 := RD_R rd35 (by decide +kernel)
theorem rd37 : RD kw37 ks36 := RD_new rd36
def ks38 : List (Nat × Nat × Nat) := (3, 3, 14) :: ks36
theorem rd38 : RD kw38 ks38 := RD_R rd37 (by decide +kernel)
def ks39 : List (Nat × Nat × Nat) := (0, 1, 3) :: ks38
theorem rd39 : RD kw39 ks39 := RD_R rd38 (by decide +kernel)
theorem rd40 : RD kw40 ks39 := RD_new rd39
theorem rd41 : RD kw41 ks39 := RD_new rd40
theorem rd42 : RD kw42 ks39 := RD_new rd41
def ks43 : List (Nat × Nat × Nat) := (16, 6, 17) :: ks39
theorem rd43 : RD kw43 ks43 := RD_R rd42 (by decide +kernel)
theorem rd44 : RD kw44 ks43 := RD_new rd43
def ks45 : List (Nat × Nat × Nat) := (16, 7, 18) :: ks43
theorem rd45 : RD kw45 ks45 := RD_R rd44 (by decide +kernel)
theorem rd46 : RD kw46 ks45 := RD_new rd45
def ks47 : List (Nat × Nat × Nat) := (16, 8, 19) :: ks45
theorem rd47 : RD kw47 ks47 := RD_R rd46 (by decide +kernel)
theorem rd48 : RD kw48 ks47 := RD_new rd47
def ks49 : List (Nat × Nat × Nat) := (16, 9, 20) :: ks47
theorem rd49 : RD kw49 ks49 := RD_R rd48 (by decide +kernel)
theorem rd50 : RD kw50 ks49 := RD_new rd49
def ks51 : List (Nat × Nat × Nat) := (16, 10, 21) :: ks49
theorem rd51 : RD kw51 ks51 := RD_R rd50 (by decide +kernel)
theorem rd52 : RD kw52 ks51 := RD_new rd51
def ks53 : List (Nat × Nat × Nat) := (16, 11, 22) :: ks51
theorem rd53 : RD kw53 ks53 := RD_R rd52 (by decide +kernel)
theorem rd54 : RD kw54 ks53 := RD_new rd53
def ks55 : List (Nat × Nat × Nat) := (16, 12, 23) :: ks53
theorem rd55 : RD kw55 ks55 := RD_R rd54 (by decide +kernel)
theorem rd56 : RD kw56 ks55 := RD_I rd55
theorem rd57 : RD kw57 ks55 := RD_I rd56
theorem rd58 : RD kw58 ks55 := RD_I rd57
theorem rd59 : RD kw59 ks55 := RD_I rd58
theorem rd60 : RD kw60 ks55 := RD_I rd59
theorem rd61 : RD kw61 ks55 := RD_J rd60
theorem rd62 : RD kw62 ks55 := RD_J rd61
theorem rd63 : RD kw63 ks55 := RD_I rd62
theorem rd64 : RD kw64 ks55 := RD_I rd63
theorem rd65 : RD kw65 ks55 := RD_I rd64
def ks66 : List (Nat × Nat × Nat) := (15, 0, 16) :: ks55
theorem rd66 : RD kw66 ks66 := RD_R rd65 (by decide +kernel)
theorem rd67 : RD kw67 ks66 := RD_new rd66
def ks68 : List (Nat × Nat × Nat) := (15, 1, 24) :: ks66
theorem rd68 : RD kw68 ks68 := RD_R rd67 (by decide +kernel)
theorem rd69 : RD kw69 ks68 := RD_new rd68
def ks70 : List (Nat × Nat × Nat) := (15, 2, 25) :: ks68
theorem rd70 : RD kw70 ks70 := RD_R rd69 (by decide +kernel)
theorem rd71 : RD kw71 ks70 := RD_new rd70
def ks72 : List (Nat × Nat × Nat) := (15, 3, 26) :: ks70
theorem rd72 : RD kw72 ks72 := RD_R rd71 (by decide +kernel)
def ks73 : List (Nat × Nat × Nat) := (0, 2, 15) :: ks72
theorem rd73 : RD kw73 ks73 := RD_R rd72 (by decide +kernel)
theorem rd74 : RD kw74 ks73 := RD_new rd73
def ks75 : List (Nat × Nat × Nat) := (0, 3, 27) :: ks73
theorem rd75 : RD kw75 ks75 := RD_R rd74 (by decide +kernel)
theorem rd76 : RD kw76 ks75 := RD_new rd75
def ks77 : List (Nat × Nat × Nat) := (28, 0, 2) :: ks75
theorem rd77 : RD kw77 ks77 := RD_R rd76 (by decide +kernel)
def ks78 : List (Nat × Nat × Nat) := (0, 4, 28) :: ks77
theorem rd78 : RD kw78 ks78 := RD_R rd77 (by decide +kernel)
theorem rd79 : RD kw79 ks78 := RD_new rd78
def ks80 : List (Nat × Nat × Nat) := (29, 0, 28) :: ks78
theorem rd80 : RD kw80 ks80 := RD_R rd79 (by decide +kernel)
def ks81 : List (Nat × Nat × Nat) := (29, 1, 16) :: ks80
theorem rd81 : RD kw81 ks81 := RD_R rd80 (by decide +kernel)
def ks82 : List (Nat × Nat × Nat) := (0, 5, 29) :: ks81
theorem rd82 : RD kw82 ks82 := RD_R rd81 (by decide +kernel)
theorem rd83 : RD kw83 ks82 := RD_new rd82
def ks84 : List (Nat × Nat × Nat) := (30, 0, 28) :: ks82
theorem rd84 : RD kw84 ks84 := RD_R rd83 (by decide +kernel)
def ks85 : List (Nat × Nat × Nat) := (30, 1, 4) :: ks84
theorem rd85 : RD kw85 ks85 := RD_R rd84 (by decide +kernel)
def ks86 : List (Nat × Nat × Nat) := (30, 2, 15) :: ks85
theorem rd86 : RD kw86 ks86 := RD_R rd85 (by decide +kernel)
def ks87 : List (Nat × Nat × Nat) := (0, 6, 30) :: ks86
theorem rd87 : RD kw87 ks87 := RD_R rd86 (by decide +kernel)
theorem rd88 : RD kw88 ks87 := RD_new rd87
theorem rd89 : RD kw89 ks87 := RD_new rd88
def ks90 : List (Nat × Nat × Nat) := (31, 2, 32) :: ks87
theorem rd90 : RD kw90 ks90 := RD_R rd89 (by decide +kernel)
theorem rd91 : RD kw91 ks90 := RD_new rd90
def ks92 : List (Nat × Nat × Nat) := (31, 3, 33) :: ks90
theorem rd92 : RD kw92 ks92 := RD_R rd91 (by decide +kernel)
theorem rd93 : RD kw93 ks92 := RD_new rd92
def ks94 : List (Nat × Nat × Nat) := (31, 4, 34) :: ks92
theorem rd94 : RD kw94 ks94 := RD_R rd93 (by decide +kernel)
theorem rd95 : RD kw95 ks94 := RD_new rd94
def ks96 : List (Nat × Nat × Nat) := (31, 5, 35) :: ks94
theorem rd96 : RD kw96 ks96 := RD_R rd95 (by decide +kernel)
def ks97 : List (Nat × Nat × Nat) := (31, 0, 3) :: ks96
theorem rd97 : RD kw97 ks97 := RD_R rd96 (by decide +kernel)
theorem rd98 : RD kw98 ks97 := RD_new rd97
def ks99 : List (Nat × Nat × Nat) := (36, 0, 3) :: ks97
theorem rd99 : RD kw99 ks99 := RD_R rd98 (by decide +kernel)
def ks100 : List (Nat × Nat × Nat) := (36, 1, 4) :: ks99
theorem rd100 : RD kw100 ks100 := RD_R rd99 (by decide +kernel)
def ks101 : List (Nat × Nat × Nat) := (31, 1, 36) :: ks100
theorem rd101 : RD kw101 ks101 := RD_R rd100 (by decide +kernel)
def ks102 : List (Nat × Nat × Nat) := (0, 7, 31) :: ks101
theorem rd102 : RD kw102 ks102 := RD_R rd101 (by decide +kernel)
theorem rd103 : RD kw103 ks102 := RD_new rd102
theorem rd104 : RD kw104 ks102 := RD_new rd103
def ks105 : List (Nat × Nat × Nat) := (37, 4, 38) :: ks102
theorem rd105 : RD kw105 ks105 := RD_R rd104 (by decide +kernel)
theorem rd106 : RD kw106 ks105 := RD_new rd105
def ks107 : List (Nat × Nat × Nat) := (37, 5, 39) :: ks105
theorem rd107 : RD kw107 ks107 := RD_R rd106 (by decide +kernel)
theorem rd108 : RD kw108 ks107 := RD_new rd107
def ks109 : List (Nat × Nat × Nat) := (37, 6, 40) :: ks107
theorem rd109 : RD kw109 ks109 := RD_R rd108 (by decide +kernel)
theorem rd110 : RD kw110 ks109 := RD_I rd109
theorem rd111 : RD kw111 ks109 := RD_I rd110
theorem rd112 : RD kw112 ks109 := RD_I rd111
theorem rd113 : RD kw113 ks109 := RD_I rd112
theorem rd114 : RD kw114 ks109 := RD_I rd113
theorem rd115 : RD kw115 ks109 := RD_I rd114
def ks116 : List (Nat × Nat × Nat) := (37, 0, 3) :: ks109
theorem rd116 : RD kw116 ks116 := RD_R rd115 (by decide +kernel)
def ks117 : List (Nat × Nat × Nat) := (37, 1, 2) :: ks116
theorem rd117 : RD kw117 ks117 := RD_R rd116 (by decide +kernel)
theorem rd118 : RD kw118 ks117 := RD_new rd117
def ks119 : List (Nat × Nat × Nat) := (41, 0, 3) :: ks117
theorem rd119 : RD kw119 ks119 := RD_R rd118 (by decide +kernel)
def ks120 : List (Nat × Nat × Nat) := (41, 1, 4) :: ks119
theorem rd120 : RD kw120 ks120 := RD_R rd119 (by decide +kernel)
def ks121 : List (Nat × Nat × Nat) := (37, 2, 41) :: ks120
theorem rd121 : RD kw121 ks121 := RD_R rd120 (by decide +kernel)
theorem rd122 : RD kw122 ks121 := RD_new rd121
def ks123 : List (Nat × Nat × Nat) := (42, 0, 3) :: ks121
theorem rd123 : RD kw123 ks123 := RD_R rd122 (by decide +kernel)
def ks124 : List (Nat × Nat × Nat) := (42, 1, 4) :: ks123
theorem rd124 : RD kw124 ks124 := RD_R rd123 (by decide +kernel)
def ks125 : List (Nat × Nat × Nat) := (37, 3, 42) :: ks124
theorem rd125 : RD kw125 ks125 := RD_R rd124 (by decide +kernel)
def ks126 : List (Nat × Nat × Nat) := (0, 8, 37) :: ks125
theorem rd126 : RD kw126 ks126 := RD_R rd125 (by decide +kernel)
theorem rd127 : RD kw127 ks126 := RD_I rd126
theorem rd128 : RD kw128 ks126 := RD_I rd127
theorem rd129 : RD kw129 ks126 := RD_new rd128
theorem rd130 : RD kw130 ks126 := RD_new rd129
def ks131 : List (Nat × Nat × Nat) := (43, 1, 44) :: ks126
theorem rd131 : RD kw131 ks131 := RD_R rd130 (by decide +kernel)
theorem rd132 : RD kw132 ks131 := RD_new rd131
def ks133 : List (Nat × Nat × Nat) := (43, 6, 45) :: ks131
theorem rd133 : RD kw133 ks133 := RD_R rd132 (by decide +kernel)
theorem rd134 : RD kw134 ks133 := RD_new rd133
def ks135 : List (Nat × Nat × Nat) := (43, 7, 46) :: ks133
theorem rd135 : RD kw135 ks135 := RD_R rd134 (by decide +kernel)
theorem rd136 : RD kw136 ks135 := RD_new rd135
def ks137 : List (Nat × Nat × Nat) := (43, 8, 47) :: ks135
theorem rd137 : RD kw137 ks137 := RD_R rd136 (by decide +kernel)
theorem rd138 : RD kw138 ks137 := RD_new rd137
def ks139 : List (Nat × Nat × Nat) := (43, 23, 48) :: ks137
theorem rd139 : RD kw139 ks139 := RD_R rd138 (by decide +kernel)
theorem rd140 : RD kw140 ks139 := RD_new rd139
def ks141 : List (Nat × Nat × Nat) := (43, 24, 49) :: ks139
theorem rd141 : RD kw141 ks141 := RD_R rd140 (by decide +kernel)
theorem rd142 : RD kw142 ks141 := RD_new rd141
def ks143 : List (Nat × Nat × Nat) := (43, 25, 50) :: ks141
theorem rd143 : RD kw143 ks143 := RD_R rd142 (by decide +kernel)
theorem rd144 : RD kw144 ks143 := RD_new rd143
def ks145 : List (Nat × Nat × Nat) := (43, 29, 51) :: ks143
theorem rd145 : RD kw145 ks145 := RD_R rd144 (by decide +kernel)
theorem rd146 : RD kw146 ks145 := RD_I rd145
theorem rd147 : RD kw147 ks145 := RD_new rd146
def ks148 : List (Nat × Nat × Nat) := (43, 32, 52) :: ks145
theorem rd148 : RD kw148 ks148 := RD_R rd147 (by decide +kernel)
theorem rd149 : RD kw149 ks148 := RD_new rd148
def ks150 : List (Nat × Nat × Nat) := (43, 33, 53) :: ks148
theorem rd150 : RD kw150 ks150 := RD_R rd149 (by decide +kernel)
theorem rd151 : RD kw151 ks150 := RD_new rd150
def ks152 : List (Nat × Nat × Nat) := (43, 34, 54) :: ks150
theorem rd152 : RD kw152 ks152 := RD_R rd151 (by decide +kernel)
theorem rd153 : RD kw153 ks152 := RD_new rd152
def ks154 : List (Nat × Nat × Nat) := (43, 35, 55) :: ks152
theorem rd154 : RD kw154 ks154 := RD_R rd153 (by decide +kernel)
theorem rd155 : RD kw155 ks154 := RD_new rd154
def ks156 : List (Nat × Nat × Nat) := (43, 46, 56) :: ks154
theorem rd156 : RD kw156 ks156 := RD_R rd155 (by decide +kernel)
theorem rd157 : RD kw157 ks156 := RD_I rd156
theorem rd158 : RD kw158 ks156 := RD_new rd157
def ks159 : List (Nat × Nat × Nat) := (43, 49, 57) :: ks156
theorem rd159 : RD kw159 ks159 := RD_R rd158 (by decide +kernel)
theorem rd160 : RD kw160 ks159 := RD_new rd159
def ks161 : List (Nat × Nat × Nat) := (43, 50, 58) :: ks159
theorem rd161 : RD kw161 ks161 := RD_R rd160 (by decide +kernel)
theorem rd162 : RD kw162 ks161 := RD_new rd161
def ks163 : List (Nat × Nat × Nat) := (43, 51, 59) :: ks161
theorem rd163 : RD kw163 ks163 := RD_R rd162 (by decide +kernel)
theorem rd164 : RD kw164 ks163 := RD_new rd163
def ks165 : List (Nat × Nat × Nat) := (43, 54, 60) :: ks163
theorem rd165 : RD kw165 ks165 := RD_R rd164 (by decide +kernel)
theorem rd166 : RD kw166 ks165 := RD_I rd165
theorem rd167 : RD kw167 ks165 := RD_I rd166
theorem rd168 : RD kw168 ks165 := RD_new rd167
def ks169 : List (Nat × Nat × Nat) := (43, 61, 61) :: ks165
theorem rd169 : RD kw169 ks169 := RD_R rd168 (by decide +kernel)
theorem rd170 : RD kw170 ks169 := RD_new rd169
def ks171 : List (Nat × Nat × Nat) := (43, 62, 62) :: ks169
theorem rd171 : RD kw171 ks171 := RD_R rd170 (by decide +kernel)
theorem rd172 : RD kw172 ks171 := RD_new rd171
def ks173 : List (Nat × Nat × Nat) := (43, 65, 63) :: ks171
theorem rd173 : RD kw173 ks173 := RD_R rd172 (by decide +kernel)
theorem rd174 : RD kw174 ks173 := RD_new rd173
def ks175 : List (Nat × Nat × Nat) := (43, 66, 64) :: ks173
theorem rd175 : RD kw175 ks175 := RD_R rd174 (by decide +kernel)
theorem rd176 : RD kw176 ks175 := RD_new rd175
def ks177 : List (Nat × Nat × Nat) := (43, 67, 65) :: ks175
theorem rd177 : RD kw177 ks177 := RD_R rd176 (by decide +kernel)
theorem rd178 : RD kw178 ks177 := RD_new rd177
def ks179 : List (Nat × Nat × Nat) := (43, 68, 66) :: ks177
theorem rd179 : RD kw179 ks179 := RD_R rd178 (by decide +kernel)
theorem rd180 : RD kw180 ks179 := RD_I rd179
theorem rd181 : RD kw181 ks179 := RD_I rd180
theorem rd182 : RD kw182 ks179 := RD_new rd181
set_option maxRecDepth 20000 in
theorem rl_ck : ∀ a, a < 68 → ∀ k, k < 69 → rl ks179 a k = RRk (fun _ _ => none) a k := by decide +kernel
theorem rl_k1 : ∀ q ∈ ks179, q.1 < 68 ∧ q.2.1 < 69 := by decide +kernel
theorem rl_ln : ∀ a, a < 68 → (RRl.getD a []).length ≤ 69 := by decide +kernel
theorem rl_RR : rl ks179 = RRk (fun _ _ => none) := by
  funext a k
  by_cases ha : 68 ≤ a
  · rw [rl_none (fun q hq => (rl_k1 q hq).1) a ha]
    unfold RRk
    rw [show (Nat.beq a 27 || Nat.ble 68 a) = true from by rw [Bool.or_eq_true]; exact Or.inr (Nat.ble_eq_true_of_le ha)]
  · by_cases hk : k < 69
    · exact rl_ck a (by omega) k hk
    · rw [rl_far (fun q hq => (rl_k1 q hq).2) a k (by omega)]
      unfold RRk
      cases hb : (Nat.beq a 27 || Nat.ble 68 a) with
      | true => rfl
      | false =>
        have := rl_ln a (by omega)
        dsimp only
        rw [List.getD_eq_getElem?_getD, List.getElem?_eq_none (by omega)]
        rfl
def x0 : mX := ([], fun _ _ => none, 68, 12969)
def Ic : rI0 := wI kw182
def Jc : rJ0 := wJ kw182
theorem kw_sh : kw182.1 = SHL := by decide +kernel
theorem kw_ct : kw182.2.2.2.2 = (68, 12969) := by decide +kernel
theorem kw_wv : kw182 = wv x0 Ic Jc := by
  have hR : kw182.2.2.2.1 = RRk (fun _ _ => none) := rd182.1.trans rl_RR
  show (kw182.1, kw182.2.1, kw182.2.2.1, kw182.2.2.2.1, kw182.2.2.2.2) = _
  rw [kw_sh, hR, kw_ct]
  rfl
