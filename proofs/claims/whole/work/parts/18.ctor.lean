noncomputable def hx0 : HP := nw ([], fun _ _ => none, fun _ _ => 0, fun _ _ => 0) 8 0
noncomputable def hx1 : HP := (nw hx0 14 4)
noncomputable def hx2 : HP := (sR hx1 0 0 (some 1))
noncomputable def hx3 : HP := (nw hx2 5 0)
noncomputable def hx4 : HP := (nw hx3 16 10)
noncomputable def hx5 : HP := (sR hx4 2 0 (some 3))
noncomputable def hx6 : HP := (nw hx5 1 0)
noncomputable def hx7 : HP := (sJ (sJ hx6 4 0 (0 : Int64)) 4 1 (1 : Int64))
noncomputable def hx8 : HP := (sR hx7 2 1 (some 4))
noncomputable def hx9 : HP := (nw hx8 1 0)
noncomputable def hx10 : HP := (sJ (sJ hx9 5 0 (0 : Int64)) 5 1 (1 : Int64))
noncomputable def hx11 : HP := (sI (sR hx10 2 2 (some 5)) 2 3 (0 : Int32))
noncomputable def hx12 : HP := (sR hx11 0 1 (some 2))
noncomputable def hx13 : HP := (nw hx12 2 0)
noncomputable def hx14 : HP := (nw hx13 10 12)
noncomputable def hx15 : HP := (sR hx14 6 0 (some 7))
noncomputable def hx16 : HP := (nw hx15 10 12)
noncomputable def hx17 : HP := (sR hx16 6 1 (some 8))
noncomputable def hx18 : HP := (nw hx17 10 12)
noncomputable def hx19 : HP := (sI (sR hx18 6 2 (some 9)) 6 3 (0 : Int32))
noncomputable def hx20 : HP := (sR hx19 0 2 (some 6))
noncomputable def hx21 : HP := (nw hx20 7 0)
noncomputable def hx22 : HP := (nw hx21 15 13)
noncomputable def hx23 : HP := (sR hx22 10 0 (some 11))
noncomputable def hx24 : HP := (nw hx23 10 12)
noncomputable def hx25 : HP := (sR hx24 10 1 (some 12))
noncomputable def hx26 : HP := (nw hx25 1 0)
noncomputable def hx27 : HP := (sJ (sJ hx26 13 0 (0 : Int64)) 13 1 (1 : Int64))
noncomputable def hx28 : HP := (sR hx27 10 2 (some 13))
noncomputable def hx29 : HP := (nw hx28 1 0)
noncomputable def hx30 : HP := (sJ (sJ hx29 14 0 (0 : Int64)) 14 1 (1 : Int64))
noncomputable def hx31 : HP := (sR hx30 10 3 (some 14))
noncomputable def hx32 : HP := (nw hx31 1 0)
noncomputable def hx33 : HP := (sJ (sJ hx32 15 0 (0 : Int64)) 15 1 (1 : Int64))
noncomputable def hx34 : HP := (sR hx33 10 4 (some 15))
noncomputable def hx35 : HP := (nw hx34 1 0)
noncomputable def hx36 : HP := (sJ (sJ hx35 16 0 (0 : Int64)) 16 1 (1 : Int64))
noncomputable def hx37 : HP := (sI (sI (sI (sI (sI (sR hx36 10 5 (some 16)) 10 6 (0 : Int32)) 10 7 (0 : Int32)) 10 8 (0 : Int32)) 10 9 (0 : Int32)) 10 10 (0 : Int32))
noncomputable def hx38 : HP := (nw hx37 4 0)
noncomputable def hx39 : HP := (nw hx38 1 0)
noncomputable def hx40 : HP := (sJ (sJ hx39 18 0 (0 : Int64)) 18 1 (1 : Int64))
noncomputable def hx41 : HP := (sI (sR hx40 17 0 (some 18)) 17 1 (0 : Int32))
noncomputable def hx42 : HP := (sR hx41 11 (0 : Int32).toNatClampNeg (some 17))
noncomputable def hx43 : HP := (nw hx42 4 0)
noncomputable def hx44 : HP := (nw hx43 1 0)
noncomputable def hx45 : HP := (sJ (sJ hx44 20 0 (0 : Int64)) 20 1 (1 : Int64))
noncomputable def hx46 : HP := (sI (sR hx45 19 0 (some 20)) 19 1 (0 : Int32))
noncomputable def hx47 : HP := (sR hx46 11 ((0 : Int32) + (1 : Int32)).toNatClampNeg (some 19))
noncomputable def hx48 : HP := (nw hx47 4 0)
noncomputable def hx49 : HP := (nw hx48 1 0)
noncomputable def hx50 : HP := (sJ (sJ hx49 22 0 (0 : Int64)) 22 1 (1 : Int64))
noncomputable def hx51 : HP := (sI (sR hx50 21 0 (some 22)) 21 1 (0 : Int32))
noncomputable def hx52 : HP := (sR hx51 11 (((0 : Int32) + (1 : Int32)) + (1 : Int32)).toNatClampNeg (some 21))
noncomputable def hx53 : HP := (nw hx52 4 0)
noncomputable def hx54 : HP := (nw hx53 1 0)
noncomputable def hx55 : HP := (sJ (sJ hx54 24 0 (0 : Int64)) 24 1 (1 : Int64))
noncomputable def hx56 : HP := (sI (sR hx55 23 0 (some 24)) 23 1 (0 : Int32))
noncomputable def hx57 : HP := (sR hx56 11 ((((0 : Int32) + (1 : Int32)) + (1 : Int32)) + (1 : Int32)).toNatClampNeg (some 23))
noncomputable def hx58 : HP := (nw hx57 4 0)
noncomputable def hx59 : HP := (nw hx58 1 0)
noncomputable def hx60 : HP := (sJ (sJ hx59 26 0 (0 : Int64)) 26 1 (1 : Int64))
noncomputable def hx61 : HP := (sI (sR hx60 25 0 (some 26)) 25 1 (0 : Int32))
noncomputable def hx62 : HP := (sR hx61 11 (((((0 : Int32) + (1 : Int32)) + (1 : Int32)) + (1 : Int32)) + (1 : Int32)).toNatClampNeg (some 25))
noncomputable def hx63 : HP := (nw hx62 4 0)
noncomputable def hx64 : HP := (nw hx63 1 0)
noncomputable def hx65 : HP := (sJ (sJ hx64 28 0 (0 : Int64)) 28 1 (1 : Int64))
noncomputable def hx66 : HP := (sI (sR hx65 27 0 (some 28)) 27 1 (0 : Int32))
noncomputable def hx67 : HP := (sR hx66 11 ((((((0 : Int32) + (1 : Int32)) + (1 : Int32)) + (1 : Int32)) + (1 : Int32)) + (1 : Int32)).toNatClampNeg (some 27))
noncomputable def hx68 : HP := (nw hx67 4 0)
noncomputable def hx69 : HP := (nw hx68 1 0)
noncomputable def hx70 : HP := (sJ (sJ hx69 30 0 (0 : Int64)) 30 1 (1 : Int64))
noncomputable def hx71 : HP := (sI (sR hx70 29 0 (some 30)) 29 1 (0 : Int32))
noncomputable def hx72 : HP := (sR hx71 11 (((((((0 : Int32) + (1 : Int32)) + (1 : Int32)) + (1 : Int32)) + (1 : Int32)) + (1 : Int32)) + (1 : Int32)).toNatClampNeg (some 29))
noncomputable def hx73 : HP := (nw hx72 4 0)
noncomputable def hx74 : HP := (nw hx73 1 0)
noncomputable def hx75 : HP := (sJ (sJ hx74 32 0 (0 : Int64)) 32 1 (1 : Int64))
noncomputable def hx76 : HP := (sI (sR hx75 31 0 (some 32)) 31 1 (0 : Int32))
noncomputable def hx77 : HP := (sR hx76 11 ((((((((0 : Int32) + (1 : Int32)) + (1 : Int32)) + (1 : Int32)) + (1 : Int32)) + (1 : Int32)) + (1 : Int32)) + (1 : Int32)).toNatClampNeg (some 31))
noncomputable def hx78 : HP := (nw hx77 4 0)
noncomputable def hx79 : HP := (nw hx78 1 0)
noncomputable def hx80 : HP := (sJ (sJ hx79 34 0 (0 : Int64)) 34 1 (1 : Int64))
noncomputable def hx81 : HP := (sI (sR hx80 33 0 (some 34)) 33 1 (0 : Int32))
noncomputable def hx82 : HP := (sR hx81 11 (((((((((0 : Int32) + (1 : Int32)) + (1 : Int32)) + (1 : Int32)) + (1 : Int32)) + (1 : Int32)) + (1 : Int32)) + (1 : Int32)) + (1 : Int32)).toNatClampNeg (some 33))
noncomputable def hx83 : HP := (nw hx82 4 0)
noncomputable def hx84 : HP := (nw hx83 1 0)
noncomputable def hx85 : HP := (sJ (sJ hx84 36 0 (0 : Int64)) 36 1 (1 : Int64))
noncomputable def hx86 : HP := (sI (sR hx85 35 0 (some 36)) 35 1 (0 : Int32))
noncomputable def hx87 : HP := (sR hx86 11 ((((((((((0 : Int32) + (1 : Int32)) + (1 : Int32)) + (1 : Int32)) + (1 : Int32)) + (1 : Int32)) + (1 : Int32)) + (1 : Int32)) + (1 : Int32)) + (1 : Int32)).toNatClampNeg (some 35))
noncomputable def hx88 : HP := (nw hx87 4 0)
noncomputable def hx89 : HP := (nw hx88 1 0)
noncomputable def hx90 : HP := (sJ (sJ hx89 38 0 (0 : Int64)) 38 1 (1 : Int64))
noncomputable def hx91 : HP := (sI (sR hx90 37 0 (some 38)) 37 1 (0 : Int32))
noncomputable def hx92 : HP := (sR hx91 11 (((((((((((0 : Int32) + (1 : Int32)) + (1 : Int32)) + (1 : Int32)) + (1 : Int32)) + (1 : Int32)) + (1 : Int32)) + (1 : Int32)) + (1 : Int32)) + (1 : Int32)) + (1 : Int32)).toNatClampNeg (some 37))
noncomputable def hx93 : HP := (nw hx92 4 0)
noncomputable def hx94 : HP := (nw hx93 1 0)
noncomputable def hx95 : HP := (sJ (sJ hx94 40 0 (0 : Int64)) 40 1 (1 : Int64))
noncomputable def hx96 : HP := (sI (sR hx95 39 0 (some 40)) 39 1 (0 : Int32))
noncomputable def hx97 : HP := (sR hx96 11 ((((((((((((0 : Int32) + (1 : Int32)) + (1 : Int32)) + (1 : Int32)) + (1 : Int32)) + (1 : Int32)) + (1 : Int32)) + (1 : Int32)) + (1 : Int32)) + (1 : Int32)) + (1 : Int32)) + (1 : Int32)).toNatClampNeg (some 39))
noncomputable def hx98 : HP := (nw hx97 4 0)
noncomputable def hx99 : HP := (nw hx98 1 0)
noncomputable def hx100 : HP := (sJ (sJ hx99 42 0 (0 : Int64)) 42 1 (1 : Int64))
noncomputable def hx101 : HP := (sI (sR hx100 41 0 (some 42)) 41 1 (0 : Int32))
noncomputable def hx102 : HP := (sR hx101 11 (((((((((((((0 : Int32) + (1 : Int32)) + (1 : Int32)) + (1 : Int32)) + (1 : Int32)) + (1 : Int32)) + (1 : Int32)) + (1 : Int32)) + (1 : Int32)) + (1 : Int32)) + (1 : Int32)) + (1 : Int32)) + (1 : Int32)).toNatClampNeg (some 41))
noncomputable def hx103 : HP := (sR hx102 0 3 (some 10))
noncomputable def hx104 : HP := (nw hx103 13 3)
noncomputable def hx105 : HP := (sR hx104 0 4 (some 43))
noncomputable def hx106 : HP := (nw hx105 2 0)
noncomputable def hx107 : HP := (nw hx106 10 12)
noncomputable def hx108 : HP := (sR hx107 44 0 (some 45))
noncomputable def hx109 : HP := (nw hx108 10 12)
noncomputable def hx110 : HP := (sR hx109 44 1 (some 46))
noncomputable def hx111 : HP := (nw hx110 10 12)
noncomputable def hx112 : HP := (sI (sR hx111 44 2 (some 47)) 44 3 (0 : Int32))
noncomputable def hx113 : HP := (sR hx112 0 5 (some 44))
noncomputable def hx114 : HP := (nw hx113 7 0)
noncomputable def hx115 : HP := (nw hx114 15 13)
noncomputable def hx116 : HP := (sR hx115 48 0 (some 49))
noncomputable def hx117 : HP := (nw hx116 10 12)
noncomputable def hx118 : HP := (sR hx117 48 1 (some 50))
noncomputable def hx119 : HP := (nw hx118 1 0)
noncomputable def hx120 : HP := (sJ (sJ hx119 51 0 (0 : Int64)) 51 1 (1 : Int64))
noncomputable def hx121 : HP := (sR hx120 48 2 (some 51))
noncomputable def hx122 : HP := (nw hx121 1 0)
noncomputable def hx123 : HP := (sJ (sJ hx122 52 0 (0 : Int64)) 52 1 (1 : Int64))
noncomputable def hx124 : HP := (sR hx123 48 3 (some 52))
noncomputable def hx125 : HP := (nw hx124 1 0)
noncomputable def hx126 : HP := (sJ (sJ hx125 53 0 (0 : Int64)) 53 1 (1 : Int64))
noncomputable def hx127 : HP := (sR hx126 48 4 (some 53))
noncomputable def hx128 : HP := (nw hx127 1 0)
noncomputable def hx129 : HP := (sJ (sJ hx128 54 0 (0 : Int64)) 54 1 (1 : Int64))
noncomputable def hx130 : HP := (sI (sI (sI (sI (sI (sR hx129 48 5 (some 54)) 48 6 (0 : Int32)) 48 7 (0 : Int32)) 48 8 (0 : Int32)) 48 9 (0 : Int32)) 48 10 (0 : Int32))
noncomputable def hx131 : HP := (nw hx130 4 0)
noncomputable def hx132 : HP := (nw hx131 1 0)
noncomputable def hx133 : HP := (sJ (sJ hx132 56 0 (0 : Int64)) 56 1 (1 : Int64))
noncomputable def hx134 : HP := (sI (sR hx133 55 0 (some 56)) 55 1 (0 : Int32))
noncomputable def hx135 : HP := (sR hx134 49 (0 : Int32).toNatClampNeg (some 55))
noncomputable def hx136 : HP := (nw hx135 4 0)
noncomputable def hx137 : HP := (nw hx136 1 0)
noncomputable def hx138 : HP := (sJ (sJ hx137 58 0 (0 : Int64)) 58 1 (1 : Int64))
noncomputable def hx139 : HP := (sI (sR hx138 57 0 (some 58)) 57 1 (0 : Int32))
noncomputable def hx140 : HP := (sR hx139 49 ((0 : Int32) + (1 : Int32)).toNatClampNeg (some 57))
noncomputable def hx141 : HP := (nw hx140 4 0)
noncomputable def hx142 : HP := (nw hx141 1 0)
noncomputable def hx143 : HP := (sJ (sJ hx142 60 0 (0 : Int64)) 60 1 (1 : Int64))
noncomputable def hx144 : HP := (sI (sR hx143 59 0 (some 60)) 59 1 (0 : Int32))
noncomputable def hx145 : HP := (sR hx144 49 (((0 : Int32) + (1 : Int32)) + (1 : Int32)).toNatClampNeg (some 59))
noncomputable def hx146 : HP := (nw hx145 4 0)
noncomputable def hx147 : HP := (nw hx146 1 0)
noncomputable def hx148 : HP := (sJ (sJ hx147 62 0 (0 : Int64)) 62 1 (1 : Int64))
noncomputable def hx149 : HP := (sI (sR hx148 61 0 (some 62)) 61 1 (0 : Int32))
noncomputable def hx150 : HP := (sR hx149 49 ((((0 : Int32) + (1 : Int32)) + (1 : Int32)) + (1 : Int32)).toNatClampNeg (some 61))
noncomputable def hx151 : HP := (nw hx150 4 0)
noncomputable def hx152 : HP := (nw hx151 1 0)
noncomputable def hx153 : HP := (sJ (sJ hx152 64 0 (0 : Int64)) 64 1 (1 : Int64))
noncomputable def hx154 : HP := (sI (sR hx153 63 0 (some 64)) 63 1 (0 : Int32))
noncomputable def hx155 : HP := (sR hx154 49 (((((0 : Int32) + (1 : Int32)) + (1 : Int32)) + (1 : Int32)) + (1 : Int32)).toNatClampNeg (some 63))
noncomputable def hx156 : HP := (nw hx155 4 0)
noncomputable def hx157 : HP := (nw hx156 1 0)
noncomputable def hx158 : HP := (sJ (sJ hx157 66 0 (0 : Int64)) 66 1 (1 : Int64))
noncomputable def hx159 : HP := (sI (sR hx158 65 0 (some 66)) 65 1 (0 : Int32))
noncomputable def hx160 : HP := (sR hx159 49 ((((((0 : Int32) + (1 : Int32)) + (1 : Int32)) + (1 : Int32)) + (1 : Int32)) + (1 : Int32)).toNatClampNeg (some 65))
noncomputable def hx161 : HP := (nw hx160 4 0)
noncomputable def hx162 : HP := (nw hx161 1 0)
noncomputable def hx163 : HP := (sJ (sJ hx162 68 0 (0 : Int64)) 68 1 (1 : Int64))
noncomputable def hx164 : HP := (sI (sR hx163 67 0 (some 68)) 67 1 (0 : Int32))
noncomputable def hx165 : HP := (sR hx164 49 (((((((0 : Int32) + (1 : Int32)) + (1 : Int32)) + (1 : Int32)) + (1 : Int32)) + (1 : Int32)) + (1 : Int32)).toNatClampNeg (some 67))
noncomputable def hx166 : HP := (nw hx165 4 0)
noncomputable def hx167 : HP := (nw hx166 1 0)
noncomputable def hx168 : HP := (sJ (sJ hx167 70 0 (0 : Int64)) 70 1 (1 : Int64))
noncomputable def hx169 : HP := (sI (sR hx168 69 0 (some 70)) 69 1 (0 : Int32))
noncomputable def hx170 : HP := (sR hx169 49 ((((((((0 : Int32) + (1 : Int32)) + (1 : Int32)) + (1 : Int32)) + (1 : Int32)) + (1 : Int32)) + (1 : Int32)) + (1 : Int32)).toNatClampNeg (some 69))
noncomputable def hx171 : HP := (nw hx170 4 0)
noncomputable def hx172 : HP := (nw hx171 1 0)
noncomputable def hx173 : HP := (sJ (sJ hx172 72 0 (0 : Int64)) 72 1 (1 : Int64))
noncomputable def hx174 : HP := (sI (sR hx173 71 0 (some 72)) 71 1 (0 : Int32))
noncomputable def hx175 : HP := (sR hx174 49 (((((((((0 : Int32) + (1 : Int32)) + (1 : Int32)) + (1 : Int32)) + (1 : Int32)) + (1 : Int32)) + (1 : Int32)) + (1 : Int32)) + (1 : Int32)).toNatClampNeg (some 71))
noncomputable def hx176 : HP := (nw hx175 4 0)
noncomputable def hx177 : HP := (nw hx176 1 0)
noncomputable def hx178 : HP := (sJ (sJ hx177 74 0 (0 : Int64)) 74 1 (1 : Int64))
noncomputable def hx179 : HP := (sI (sR hx178 73 0 (some 74)) 73 1 (0 : Int32))
noncomputable def hx180 : HP := (sR hx179 49 ((((((((((0 : Int32) + (1 : Int32)) + (1 : Int32)) + (1 : Int32)) + (1 : Int32)) + (1 : Int32)) + (1 : Int32)) + (1 : Int32)) + (1 : Int32)) + (1 : Int32)).toNatClampNeg (some 73))
noncomputable def hx181 : HP := (nw hx180 4 0)
noncomputable def hx182 : HP := (nw hx181 1 0)
noncomputable def hx183 : HP := (sJ (sJ hx182 76 0 (0 : Int64)) 76 1 (1 : Int64))
noncomputable def hx184 : HP := (sI (sR hx183 75 0 (some 76)) 75 1 (0 : Int32))
noncomputable def hx185 : HP := (sR hx184 49 (((((((((((0 : Int32) + (1 : Int32)) + (1 : Int32)) + (1 : Int32)) + (1 : Int32)) + (1 : Int32)) + (1 : Int32)) + (1 : Int32)) + (1 : Int32)) + (1 : Int32)) + (1 : Int32)).toNatClampNeg (some 75))
noncomputable def hx186 : HP := (nw hx185 4 0)
noncomputable def hx187 : HP := (nw hx186 1 0)
noncomputable def hx188 : HP := (sJ (sJ hx187 78 0 (0 : Int64)) 78 1 (1 : Int64))
noncomputable def hx189 : HP := (sI (sR hx188 77 0 (some 78)) 77 1 (0 : Int32))
noncomputable def hx190 : HP := (sR hx189 49 ((((((((((((0 : Int32) + (1 : Int32)) + (1 : Int32)) + (1 : Int32)) + (1 : Int32)) + (1 : Int32)) + (1 : Int32)) + (1 : Int32)) + (1 : Int32)) + (1 : Int32)) + (1 : Int32)) + (1 : Int32)).toNatClampNeg (some 77))
noncomputable def hx191 : HP := (nw hx190 4 0)
noncomputable def hx192 : HP := (nw hx191 1 0)
noncomputable def hx193 : HP := (sJ (sJ hx192 80 0 (0 : Int64)) 80 1 (1 : Int64))
noncomputable def hx194 : HP := (sI (sR hx193 79 0 (some 80)) 79 1 (0 : Int32))
noncomputable def hx195 : HP := (sR hx194 49 (((((((((((((0 : Int32) + (1 : Int32)) + (1 : Int32)) + (1 : Int32)) + (1 : Int32)) + (1 : Int32)) + (1 : Int32)) + (1 : Int32)) + (1 : Int32)) + (1 : Int32)) + (1 : Int32)) + (1 : Int32)) + (1 : Int32)).toNatClampNeg (some 79))
noncomputable def hx196 : HP := (sR hx195 0 6 (some 48))
noncomputable def hx197 : HP := (nw hx196 4 0)
noncomputable def hx198 : HP := (nw hx197 1 0)
noncomputable def hx199 : HP := (sJ (sJ hx198 82 0 (0 : Int64)) 82 1 (1 : Int64))
noncomputable def hx200 : HP := (sI (sR hx199 81 0 (some 82)) 81 1 (0 : Int32))
noncomputable def hx201 : HP := (sR hx200 0 7 (some 81))
noncomputable def hx202 : HP := (nw hx201 1 0)
noncomputable def hx203 : HP := (sJ (sJ hx202 83 0 (0 : Int64)) 83 1 (1 : Int64))
noncomputable def hx204 : HP := (sR hx203 0 8 (some 83))
noncomputable def hx205 : HP := (nw hx204 1 0)
noncomputable def hx206 : HP := (sJ (sJ hx205 84 0 (0 : Int64)) 84 1 (1 : Int64))
noncomputable def hx207 : HP := (sR hx206 0 9 (some 84))
noncomputable def hx208 : HP := (nw hx207 1 0)
noncomputable def hx209 : HP := (sJ (sJ hx208 85 0 (0 : Int64)) 85 1 (1 : Int64))
noncomputable def hx210 : HP := (sI (sR hx209 0 10 (some 85)) 0 11 (0 : Int32))
noncomputable def hx211 : HP := (nw hx210 3 0)
noncomputable def hx212 : HP := (nw hx211 10 40)
noncomputable def hx213 : HP := (sI (sI (sI (sR hx212 86 0 (some 87)) 86 1 (0 : Int32)) 86 2 (0 : Int32)) 86 3 (0 : Int32))
noncomputable def hx214 : HP := (sR hx213 1 (0 : Int32).toNatClampNeg (some 86))
noncomputable def hx215 : HP := (nw hx214 3 0)
noncomputable def hx216 : HP := (nw hx215 10 40)
noncomputable def hx217 : HP := (sI (sI (sI (sR hx216 88 0 (some 89)) 88 1 (0 : Int32)) 88 2 (0 : Int32)) 88 3 (0 : Int32))
noncomputable def hx218 : HP := (sR hx217 1 ((0 : Int32) + (1 : Int32)).toNatClampNeg (some 88))
noncomputable def hx219 : HP := (nw hx218 3 0)
noncomputable def hx220 : HP := (nw hx219 10 40)
noncomputable def hx221 : HP := (sI (sI (sI (sR hx220 90 0 (some 91)) 90 1 (0 : Int32)) 90 2 (0 : Int32)) 90 3 (0 : Int32))
noncomputable def hx222 : HP := (sR hx221 1 (((0 : Int32) + (1 : Int32)) + (1 : Int32)).toNatClampNeg (some 90))
noncomputable def hx223 : HP := (nw hx222 3 0)
noncomputable def hx224 : HP := (nw hx223 10 40)
noncomputable def hx225 : HP := (sI (sI (sI (sR hx224 92 0 (some 93)) 92 1 (0 : Int32)) 92 2 (0 : Int32)) 92 3 (0 : Int32))
noncomputable def hx226 : HP := (sR hx225 1 ((((0 : Int32) + (1 : Int32)) + (1 : Int32)) + (1 : Int32)).toNatClampNeg (some 92))
noncomputable def hx227 : HP := (nw hx226 0 0)
noncomputable def hx228 : HP := (nw hx227 2 0)
noncomputable def hx229 : HP := (nw hx228 10 12)
noncomputable def hx230 : HP := (sR hx229 95 0 (some 96))
noncomputable def hx231 : HP := (nw hx230 10 12)
noncomputable def hx232 : HP := (sR hx231 95 1 (some 97))
noncomputable def hx233 : HP := (nw hx232 10 12)
noncomputable def hx234 : HP := (sI (sR hx233 95 2 (some 98)) 95 3 (0 : Int32))
noncomputable def hx235 : HP := (sR hx234 94 0 (some 95))
noncomputable def hx236 : HP := (nw hx235 4 0)
noncomputable def hx237 : HP := (nw hx236 1 0)
noncomputable def hx238 : HP := (sJ (sJ hx237 100 0 (0 : Int64)) 100 1 (1 : Int64))
noncomputable def hx239 : HP := (sI (sR hx238 99 0 (some 100)) 99 1 (0 : Int32))
noncomputable def hx240 : HP := (sI (sR hx239 94 1 (some 99)) 94 2 (0 : Int32))
noncomputable def hx241 : HP := (sR hx240 43 (0 : Int32).toNatClampNeg (some 94))
noncomputable def hx242 : HP := (nw hx241 0 0)
noncomputable def hx243 : HP := (nw hx242 2 0)
noncomputable def hx244 : HP := (nw hx243 10 12)
noncomputable def hx245 : HP := (sR hx244 102 0 (some 103))
noncomputable def hx246 : HP := (nw hx245 10 12)
noncomputable def hx247 : HP := (sR hx246 102 1 (some 104))
noncomputable def hx248 : HP := (nw hx247 10 12)
noncomputable def hx249 : HP := (sI (sR hx248 102 2 (some 105)) 102 3 (0 : Int32))
noncomputable def hx250 : HP := (sR hx249 101 0 (some 102))
noncomputable def hx251 : HP := (nw hx250 4 0)
noncomputable def hx252 : HP := (nw hx251 1 0)
noncomputable def hx253 : HP := (sJ (sJ hx252 107 0 (0 : Int64)) 107 1 (1 : Int64))
noncomputable def hx254 : HP := (sI (sR hx253 106 0 (some 107)) 106 1 (0 : Int32))
noncomputable def hx255 : HP := (sI (sR hx254 101 1 (some 106)) 101 2 (0 : Int32))
noncomputable def hx256 : HP := (sR hx255 43 ((0 : Int32) + (1 : Int32)).toNatClampNeg (some 101))
noncomputable def hx257 : HP := (nw hx256 0 0)
noncomputable def hx258 : HP := (nw hx257 2 0)
noncomputable def hx259 : HP := (nw hx258 10 12)
noncomputable def hx260 : HP := (sR hx259 109 0 (some 110))
noncomputable def hx261 : HP := (nw hx260 10 12)
noncomputable def hx262 : HP := (sR hx261 109 1 (some 111))
noncomputable def hx263 : HP := (nw hx262 10 12)
noncomputable def hx264 : HP := (sI (sR hx263 109 2 (some 112)) 109 3 (0 : Int32))
noncomputable def hx265 : HP := (sR hx264 108 0 (some 109))
noncomputable def hx266 : HP := (nw hx265 4 0)
noncomputable def hx267 : HP := (nw hx266 1 0)
noncomputable def hx268 : HP := (sJ (sJ hx267 114 0 (0 : Int64)) 114 1 (1 : Int64))
noncomputable def hx269 : HP := (sI (sR hx268 113 0 (some 114)) 113 1 (0 : Int32))
noncomputable def hx270 : HP := (sI (sR hx269 108 1 (some 113)) 108 2 (0 : Int32))
noncomputable def hx271 : HP := (sR hx270 43 (((0 : Int32) + (1 : Int32)) + (1 : Int32)).toNatClampNeg (some 108))
noncomputable def hx272 : HP := nw hx271 9 0
noncomputable def hx273 : HP := (nw hx272 10 4)
noncomputable def hx274 : HP := (sR hx273 115 1 (some 116))
noncomputable def hx275 : HP := (nw hx274 10 4)
noncomputable def hx276 : HP := (sR (sI (sI (sI (sI hx275 117 (0 : Int32).toNatClampNeg (-1 : Int32)) 117 (1 : Int32).toNatClampNeg (-1 : Int32)) 117 (2 : Int32).toNatClampNeg (-1 : Int32)) 117 (3 : Int32).toNatClampNeg (-1 : Int32)) 115 2 (some 117))
noncomputable def hx277 : HP := (nw hx276 10 160)
noncomputable def hx278 : HP := (sR hx277 115 3 (some 118))
noncomputable def hx279 : HP := (nw hx278 10 10)
noncomputable def hx280 : HP := (sR hx279 115 5 (some 119))
noncomputable def hx281 : HP := (nw hx280 10 80)
noncomputable def hx282 : HP := (sR hx281 115 6 (some 120))
noncomputable def hx283 : HP := (nw hx282 10 80)
noncomputable def hx284 : HP := (sR hx283 115 7 (some 121))
noncomputable def hx285 : HP := (nw hx284 10 80)
noncomputable def hx286 : HP := (sR hx285 115 8 (some 122))
noncomputable def hx287 : HP := (nw hx286 10 12)
noncomputable def hx288 : HP := (sR hx287 115 12 (some 123))
noncomputable def hx289 : HP := (nw hx288 10 12)
noncomputable def hx290 : HP := (sR hx289 115 13 (some 124))
noncomputable def hx291 : HP := (nw hx290 10 12)
noncomputable def hx292 : HP := (sR hx291 115 14 (some 125))
noncomputable def hx293 : HP := (nw hx292 10 13)
noncomputable def hx294 : HP := (sR hx293 115 15 (some 126))
noncomputable def hx295 : HP := (nw hx294 11 13)
noncomputable def hx296 : HP := (sR hx295 115 16 (some 127))
noncomputable def hx297 : HP := (nw hx296 11 13)
noncomputable def hx298 : HP := (sR hx297 115 17 (some 128))
noncomputable def hx299 : HP := (nw hx298 10 12)
noncomputable def hx300 : HP := (sR hx299 115 18 (some 129))
noncomputable def hx301 : HP := (nw hx300 10 13)
noncomputable def hx302 : HP := (sR hx301 115 26 (some 130))
noncomputable def hx303 : HP := (nw hx302 11 13)
noncomputable def hx304 : HP := (sR hx303 115 27 (some 131))
noncomputable def hx305 : HP := (nw hx304 11 13)
noncomputable def hx306 : HP := (sR hx305 115 28 (some 132))
noncomputable def hx307 : HP := (nw hx306 10 12)
noncomputable def hx308 : HP := (sR hx307 115 29 (some 133))
noncomputable def hx309 : HP := (nw hx308 12 3)
noncomputable def hx310 : HP := (sR hx309 115 32 (some 134))
noncomputable def hx311 : HP := (nw hx310 10 120)
noncomputable def hx312 : HP := (sR hx311 115 33 (some 135))
noncomputable def hx313 : HP := (nw hx312 11 3)
noncomputable def hx314 : HP := (sR hx313 115 34 (some 136))
noncomputable def hx315 : HP := (nw hx314 11 3)
noncomputable def hx316 : HP := (sR hx315 115 35 (some 137))
noncomputable def hx317 : HP := (nw hx316 10 37)
noncomputable def hx318 : HP := (sR hx317 115 36 (some 138))
set_option maxHeartbeats 4000000 in
set_option maxRecDepth 100000 in
theorem ctor_x {Q : Option Value → HP → Prop} (nx : Q none hx271) : X 40 Q 114 624 0 [.ref 0, UU] [] hx0 := by
  refine b40_0 (by decide) (by decide) ?_
  rw [show hx0.1.length = 1 from by decide +kernel]
  rw [show (nw hx0 14 4) = hx1 from rfl]
  refine b40_9 (by decide +kernel) (by decide) (by decide) ?_
  rw [show (sR hx1 0 0 (some 1)) = hx2 from rfl]
  rw [show hx2.1.length = 2 from by decide +kernel]
  rw [show (nw hx2 5 0) = hx3 from rfl]
  refine b40_16 (by decide) (by decide) ?_
  refine b22_0 (by decide) (by decide) ?_
  rw [show hx3.1.length = 3 from by decide +kernel]
  rw [show (nw hx3 16 10) = hx4 from rfl]
  refine b22_10 (by decide +kernel) (by decide) (by decide) ?_
  rw [show (sR hx4 2 0 (some 3)) = hx5 from rfl]
  rw [show hx5.1.length = 4 from by decide +kernel]
  rw [show (nw hx5 1 0) = hx6 from rfl]
  refine b22_17 ?_
  refine b1_0 (by decide +kernel) ?_
  rw [show (sJ (sJ hx6 4 0 (0 : Int64)) 4 1 (1 : Int64)) = hx7 from rfl]
  refine b22_21 (by decide +kernel) (by decide) (by decide) ?_
  rw [show (sR hx7 2 1 (some 4)) = hx8 from rfl]
  rw [show hx8.1.length = 5 from by decide +kernel]
  rw [show (nw hx8 1 0) = hx9 from rfl]
  refine b22_28 ?_
  refine b1_0 (by decide +kernel) ?_
  rw [show (sJ (sJ hx9 5 0 (0 : Int64)) 5 1 (1 : Int64)) = hx10 from rfl]
  refine b22_32 (by decide +kernel) (by decide +kernel) ?_
  rw [show (sI (sR hx10 2 2 (some 5)) 2 3 (0 : Int32)) = hx11 from rfl]
  refine b40_20 (by decide +kernel) (by decide) (by decide) ?_
  rw [show (sR hx11 0 1 (some 2)) = hx12 from rfl]
  rw [show hx12.1.length = 6 from by decide +kernel]
  rw [show (nw hx12 2 0) = hx13 from rfl]
  refine b40_27 (by decide) (by decide) ?_
  refine b10_0 (by decide) (by decide) ?_
  rw [show hx13.1.length = 7 from by decide +kernel]
  rw [show (nw hx13 10 12) = hx14 from rfl]
  refine b10_9 (by decide +kernel) (by decide) (by decide) ?_
  rw [show (sR hx14 6 0 (some 7)) = hx15 from rfl]
  rw [show hx15.1.length = 8 from by decide +kernel]
  rw [show (nw hx15 10 12) = hx16 from rfl]
  refine b10_17 (by decide +kernel) (by decide) (by decide) ?_
  rw [show (sR hx16 6 1 (some 8)) = hx17 from rfl]
  rw [show hx17.1.length = 9 from by decide +kernel]
  rw [show (nw hx17 10 12) = hx18 from rfl]
  refine b10_25 (by decide +kernel) (by decide +kernel) ?_
  rw [show (sI (sR hx18 6 2 (some 9)) 6 3 (0 : Int32)) = hx19 from rfl]
  refine b40_31 (by decide +kernel) (by decide) (by decide) ?_
  rw [show (sR hx19 0 2 (some 6)) = hx20 from rfl]
  rw [show hx20.1.length = 10 from by decide +kernel]
  rw [show (nw hx20 7 0) = hx21 from rfl]
  refine b40_38 (by decide) (by decide) ?_
  refine b35_0 (by decide) (by decide) ?_
  rw [show hx21.1.length = 11 from by decide +kernel]
  rw [show (nw hx21 15 13) = hx22 from rfl]
  refine b35_10 (by decide +kernel) (by decide) (by decide) ?_
  rw [show (sR hx22 10 0 (some 11)) = hx23 from rfl]
  rw [show hx23.1.length = 12 from by decide +kernel]
  rw [show (nw hx23 10 12) = hx24 from rfl]
  refine b35_18 (by decide +kernel) (by decide) (by decide) ?_
  rw [show (sR hx24 10 1 (some 12)) = hx25 from rfl]
  rw [show hx25.1.length = 13 from by decide +kernel]
  rw [show (nw hx25 1 0) = hx26 from rfl]
  refine b35_25 ?_
  refine b1_0 (by decide +kernel) ?_
  rw [show (sJ (sJ hx26 13 0 (0 : Int64)) 13 1 (1 : Int64)) = hx27 from rfl]
  refine b35_29 (by decide +kernel) (by decide) (by decide) ?_
  rw [show (sR hx27 10 2 (some 13)) = hx28 from rfl]
  rw [show hx28.1.length = 14 from by decide +kernel]
  rw [show (nw hx28 1 0) = hx29 from rfl]
  refine b35_36 ?_
  refine b1_0 (by decide +kernel) ?_
  rw [show (sJ (sJ hx29 14 0 (0 : Int64)) 14 1 (1 : Int64)) = hx30 from rfl]
  refine b35_40 (by decide +kernel) (by decide) (by decide) ?_
  rw [show (sR hx30 10 3 (some 14)) = hx31 from rfl]
  rw [show hx31.1.length = 15 from by decide +kernel]
  rw [show (nw hx31 1 0) = hx32 from rfl]
  refine b35_47 ?_
  refine b1_0 (by decide +kernel) ?_
  rw [show (sJ (sJ hx32 15 0 (0 : Int64)) 15 1 (1 : Int64)) = hx33 from rfl]
  refine b35_51 (by decide +kernel) (by decide) (by decide) ?_
  rw [show (sR hx33 10 4 (some 15)) = hx34 from rfl]
  rw [show hx34.1.length = 16 from by decide +kernel]
  rw [show (nw hx34 1 0) = hx35 from rfl]
  refine b35_58 ?_
  refine b1_0 (by decide +kernel) ?_
  rw [show (sJ (sJ hx35 16 0 (0 : Int64)) 16 1 (1 : Int64)) = hx36 from rfl]
  refine b35_62 (by decide +kernel) (by decide +kernel) ?_
  rw [show (sI (sI (sI (sI (sI (sR hx36 10 5 (some 16)) 10 6 (0 : Int32)) 10 7 (0 : Int32)) 10 8 (0 : Int32)) 10 9 (0 : Int32)) 10 10 (0 : Int32)) = hx37 from rfl]
  refine b35_92 (fun c => absurd c (by decide +kernel)) (fun _ => ?_)
  refine b35_98 (r1 := 11) (by decide +kernel) (by decide +kernel) (by decide) (by decide) ?_
  rw [show hx37.1.length = 17 from by decide +kernel]
  rw [show (nw hx37 4 0) = hx38 from rfl]
  refine b35_106 (by decide) (by decide) ?_
  refine b18_0 (by decide) (by decide) ?_
  rw [show hx38.1.length = 18 from by decide +kernel]
  rw [show (nw hx38 1 0) = hx39 from rfl]
  refine b18_8 ?_
  refine b1_0 (by decide +kernel) ?_
  rw [show (sJ (sJ hx39 18 0 (0 : Int64)) 18 1 (1 : Int64)) = hx40 from rfl]
  refine b18_12 (by decide +kernel) (by decide +kernel) ?_
  rw [show (sI (sR hx40 17 0 (some 18)) 17 1 (0 : Int32)) = hx41 from rfl]
  refine b35_110 (by unfold akd; decide +kernel) (by unfold vp_in; decide +kernel) ?_
  rw [show (sR hx41 11 (0 : Int32).toNatClampNeg (some 17)) = hx42 from rfl]
  refine b35_92 (fun c => absurd c (by decide +kernel)) (fun _ => ?_)
  refine b35_98 (r1 := 11) (by decide +kernel) (by decide +kernel) (by decide) (by decide) ?_
  rw [show hx42.1.length = 19 from by decide +kernel]
  rw [show (nw hx42 4 0) = hx43 from rfl]
  refine b35_106 (by decide) (by decide) ?_
  refine b18_0 (by decide) (by decide) ?_
  rw [show hx43.1.length = 20 from by decide +kernel]
  rw [show (nw hx43 1 0) = hx44 from rfl]
  refine b18_8 ?_
  refine b1_0 (by decide +kernel) ?_
  rw [show (sJ (sJ hx44 20 0 (0 : Int64)) 20 1 (1 : Int64)) = hx45 from rfl]
  refine b18_12 (by decide +kernel) (by decide +kernel) ?_
  rw [show (sI (sR hx45 19 0 (some 20)) 19 1 (0 : Int32)) = hx46 from rfl]
  refine b35_110 (by unfold akd; decide +kernel) (by unfold vp_in; decide +kernel) ?_
  rw [show (sR hx46 11 ((0 : Int32) + (1 : Int32)).toNatClampNeg (some 19)) = hx47 from rfl]
  refine b35_92 (fun c => absurd c (by decide +kernel)) (fun _ => ?_)
  refine b35_98 (r1 := 11) (by decide +kernel) (by decide +kernel) (by decide) (by decide) ?_
  rw [show hx47.1.length = 21 from by decide +kernel]
  rw [show (nw hx47 4 0) = hx48 from rfl]
  refine b35_106 (by decide) (by decide) ?_
  refine b18_0 (by decide) (by decide) ?_
  rw [show hx48.1.length = 22 from by decide +kernel]
  rw [show (nw hx48 1 0) = hx49 from rfl]
  refine b18_8 ?_
  refine b1_0 (by decide +kernel) ?_
  rw [show (sJ (sJ hx49 22 0 (0 : Int64)) 22 1 (1 : Int64)) = hx50 from rfl]
  refine b18_12 (by decide +kernel) (by decide +kernel) ?_
  rw [show (sI (sR hx50 21 0 (some 22)) 21 1 (0 : Int32)) = hx51 from rfl]
  refine b35_110 (by unfold akd; decide +kernel) (by unfold vp_in; decide +kernel) ?_
  rw [show (sR hx51 11 (((0 : Int32) + (1 : Int32)) + (1 : Int32)).toNatClampNeg (some 21)) = hx52 from rfl]
  refine b35_92 (fun c => absurd c (by decide +kernel)) (fun _ => ?_)
  refine b35_98 (r1 := 11) (by decide +kernel) (by decide +kernel) (by decide) (by decide) ?_
  rw [show hx52.1.length = 23 from by decide +kernel]
  rw [show (nw hx52 4 0) = hx53 from rfl]
  refine b35_106 (by decide) (by decide) ?_
  refine b18_0 (by decide) (by decide) ?_
  rw [show hx53.1.length = 24 from by decide +kernel]
  rw [show (nw hx53 1 0) = hx54 from rfl]
  refine b18_8 ?_
  refine b1_0 (by decide +kernel) ?_
  rw [show (sJ (sJ hx54 24 0 (0 : Int64)) 24 1 (1 : Int64)) = hx55 from rfl]
  refine b18_12 (by decide +kernel) (by decide +kernel) ?_
  rw [show (sI (sR hx55 23 0 (some 24)) 23 1 (0 : Int32)) = hx56 from rfl]
  refine b35_110 (by unfold akd; decide +kernel) (by unfold vp_in; decide +kernel) ?_
  rw [show (sR hx56 11 ((((0 : Int32) + (1 : Int32)) + (1 : Int32)) + (1 : Int32)).toNatClampNeg (some 23)) = hx57 from rfl]
  refine b35_92 (fun c => absurd c (by decide +kernel)) (fun _ => ?_)
  refine b35_98 (r1 := 11) (by decide +kernel) (by decide +kernel) (by decide) (by decide) ?_
  rw [show hx57.1.length = 25 from by decide +kernel]
  rw [show (nw hx57 4 0) = hx58 from rfl]
  refine b35_106 (by decide) (by decide) ?_
  refine b18_0 (by decide) (by decide) ?_
  rw [show hx58.1.length = 26 from by decide +kernel]
  rw [show (nw hx58 1 0) = hx59 from rfl]
  refine b18_8 ?_
  refine b1_0 (by decide +kernel) ?_
  rw [show (sJ (sJ hx59 26 0 (0 : Int64)) 26 1 (1 : Int64)) = hx60 from rfl]
  refine b18_12 (by decide +kernel) (by decide +kernel) ?_
  rw [show (sI (sR hx60 25 0 (some 26)) 25 1 (0 : Int32)) = hx61 from rfl]
  refine b35_110 (by unfold akd; decide +kernel) (by unfold vp_in; decide +kernel) ?_
  rw [show (sR hx61 11 (((((0 : Int32) + (1 : Int32)) + (1 : Int32)) + (1 : Int32)) + (1 : Int32)).toNatClampNeg (some 25)) = hx62 from rfl]
  refine b35_92 (fun c => absurd c (by decide +kernel)) (fun _ => ?_)
  refine b35_98 (r1 := 11) (by decide +kernel) (by decide +kernel) (by decide) (by decide) ?_
  rw [show hx62.1.length = 27 from by decide +kernel]
  rw [show (nw hx62 4 0) = hx63 from rfl]
  refine b35_106 (by decide) (by decide) ?_
  refine b18_0 (by decide) (by decide) ?_
  rw [show hx63.1.length = 28 from by decide +kernel]
  rw [show (nw hx63 1 0) = hx64 from rfl]
  refine b18_8 ?_
  refine b1_0 (by decide +kernel) ?_
  rw [show (sJ (sJ hx64 28 0 (0 : Int64)) 28 1 (1 : Int64)) = hx65 from rfl]
  refine b18_12 (by decide +kernel) (by decide +kernel) ?_
  rw [show (sI (sR hx65 27 0 (some 28)) 27 1 (0 : Int32)) = hx66 from rfl]
  refine b35_110 (by unfold akd; decide +kernel) (by unfold vp_in; decide +kernel) ?_
  rw [show (sR hx66 11 ((((((0 : Int32) + (1 : Int32)) + (1 : Int32)) + (1 : Int32)) + (1 : Int32)) + (1 : Int32)).toNatClampNeg (some 27)) = hx67 from rfl]
  refine b35_92 (fun c => absurd c (by decide +kernel)) (fun _ => ?_)
  refine b35_98 (r1 := 11) (by decide +kernel) (by decide +kernel) (by decide) (by decide) ?_
  rw [show hx67.1.length = 29 from by decide +kernel]
  rw [show (nw hx67 4 0) = hx68 from rfl]
  refine b35_106 (by decide) (by decide) ?_
  refine b18_0 (by decide) (by decide) ?_
  rw [show hx68.1.length = 30 from by decide +kernel]
  rw [show (nw hx68 1 0) = hx69 from rfl]
  refine b18_8 ?_
  refine b1_0 (by decide +kernel) ?_
  rw [show (sJ (sJ hx69 30 0 (0 : Int64)) 30 1 (1 : Int64)) = hx70 from rfl]
  refine b18_12 (by decide +kernel) (by decide +kernel) ?_
  rw [show (sI (sR hx70 29 0 (some 30)) 29 1 (0 : Int32)) = hx71 from rfl]
  refine b35_110 (by unfold akd; decide +kernel) (by unfold vp_in; decide +kernel) ?_
  rw [show (sR hx71 11 (((((((0 : Int32) + (1 : Int32)) + (1 : Int32)) + (1 : Int32)) + (1 : Int32)) + (1 : Int32)) + (1 : Int32)).toNatClampNeg (some 29)) = hx72 from rfl]
  refine b35_92 (fun c => absurd c (by decide +kernel)) (fun _ => ?_)
  refine b35_98 (r1 := 11) (by decide +kernel) (by decide +kernel) (by decide) (by decide) ?_
  rw [show hx72.1.length = 31 from by decide +kernel]
  rw [show (nw hx72 4 0) = hx73 from rfl]
  refine b35_106 (by decide) (by decide) ?_
  refine b18_0 (by decide) (by decide) ?_
  rw [show hx73.1.length = 32 from by decide +kernel]
  rw [show (nw hx73 1 0) = hx74 from rfl]
  refine b18_8 ?_
  refine b1_0 (by decide +kernel) ?_
  rw [show (sJ (sJ hx74 32 0 (0 : Int64)) 32 1 (1 : Int64)) = hx75 from rfl]
  refine b18_12 (by decide +kernel) (by decide +kernel) ?_
  rw [show (sI (sR hx75 31 0 (some 32)) 31 1 (0 : Int32)) = hx76 from rfl]
  refine b35_110 (by unfold akd; decide +kernel) (by unfold vp_in; decide +kernel) ?_
  rw [show (sR hx76 11 ((((((((0 : Int32) + (1 : Int32)) + (1 : Int32)) + (1 : Int32)) + (1 : Int32)) + (1 : Int32)) + (1 : Int32)) + (1 : Int32)).toNatClampNeg (some 31)) = hx77 from rfl]
  refine b35_92 (fun c => absurd c (by decide +kernel)) (fun _ => ?_)
  refine b35_98 (r1 := 11) (by decide +kernel) (by decide +kernel) (by decide) (by decide) ?_
  rw [show hx77.1.length = 33 from by decide +kernel]
  rw [show (nw hx77 4 0) = hx78 from rfl]
  refine b35_106 (by decide) (by decide) ?_
  refine b18_0 (by decide) (by decide) ?_
  rw [show hx78.1.length = 34 from by decide +kernel]
  rw [show (nw hx78 1 0) = hx79 from rfl]
  refine b18_8 ?_
  refine b1_0 (by decide +kernel) ?_
  rw [show (sJ (sJ hx79 34 0 (0 : Int64)) 34 1 (1 : Int64)) = hx80 from rfl]
  refine b18_12 (by decide +kernel) (by decide +kernel) ?_
  rw [show (sI (sR hx80 33 0 (some 34)) 33 1 (0 : Int32)) = hx81 from rfl]
  refine b35_110 (by unfold akd; decide +kernel) (by unfold vp_in; decide +kernel) ?_
  rw [show (sR hx81 11 (((((((((0 : Int32) + (1 : Int32)) + (1 : Int32)) + (1 : Int32)) + (1 : Int32)) + (1 : Int32)) + (1 : Int32)) + (1 : Int32)) + (1 : Int32)).toNatClampNeg (some 33)) = hx82 from rfl]
  refine b35_92 (fun c => absurd c (by decide +kernel)) (fun _ => ?_)
  refine b35_98 (r1 := 11) (by decide +kernel) (by decide +kernel) (by decide) (by decide) ?_
  rw [show hx82.1.length = 35 from by decide +kernel]
  rw [show (nw hx82 4 0) = hx83 from rfl]
  refine b35_106 (by decide) (by decide) ?_
  refine b18_0 (by decide) (by decide) ?_
  rw [show hx83.1.length = 36 from by decide +kernel]
  rw [show (nw hx83 1 0) = hx84 from rfl]
  refine b18_8 ?_
  refine b1_0 (by decide +kernel) ?_
  rw [show (sJ (sJ hx84 36 0 (0 : Int64)) 36 1 (1 : Int64)) = hx85 from rfl]
  refine b18_12 (by decide +kernel) (by decide +kernel) ?_
  rw [show (sI (sR hx85 35 0 (some 36)) 35 1 (0 : Int32)) = hx86 from rfl]
  refine b35_110 (by unfold akd; decide +kernel) (by unfold vp_in; decide +kernel) ?_
  rw [show (sR hx86 11 ((((((((((0 : Int32) + (1 : Int32)) + (1 : Int32)) + (1 : Int32)) + (1 : Int32)) + (1 : Int32)) + (1 : Int32)) + (1 : Int32)) + (1 : Int32)) + (1 : Int32)).toNatClampNeg (some 35)) = hx87 from rfl]
  refine b35_92 (fun c => absurd c (by decide +kernel)) (fun _ => ?_)
  refine b35_98 (r1 := 11) (by decide +kernel) (by decide +kernel) (by decide) (by decide) ?_
  rw [show hx87.1.length = 37 from by decide +kernel]
  rw [show (nw hx87 4 0) = hx88 from rfl]
  refine b35_106 (by decide) (by decide) ?_
  refine b18_0 (by decide) (by decide) ?_
  rw [show hx88.1.length = 38 from by decide +kernel]
  rw [show (nw hx88 1 0) = hx89 from rfl]
  refine b18_8 ?_
  refine b1_0 (by decide +kernel) ?_
  rw [show (sJ (sJ hx89 38 0 (0 : Int64)) 38 1 (1 : Int64)) = hx90 from rfl]
  refine b18_12 (by decide +kernel) (by decide +kernel) ?_
  rw [show (sI (sR hx90 37 0 (some 38)) 37 1 (0 : Int32)) = hx91 from rfl]
  refine b35_110 (by unfold akd; decide +kernel) (by unfold vp_in; decide +kernel) ?_
  rw [show (sR hx91 11 (((((((((((0 : Int32) + (1 : Int32)) + (1 : Int32)) + (1 : Int32)) + (1 : Int32)) + (1 : Int32)) + (1 : Int32)) + (1 : Int32)) + (1 : Int32)) + (1 : Int32)) + (1 : Int32)).toNatClampNeg (some 37)) = hx92 from rfl]
  refine b35_92 (fun c => absurd c (by decide +kernel)) (fun _ => ?_)
  refine b35_98 (r1 := 11) (by decide +kernel) (by decide +kernel) (by decide) (by decide) ?_
  rw [show hx92.1.length = 39 from by decide +kernel]
  rw [show (nw hx92 4 0) = hx93 from rfl]
  refine b35_106 (by decide) (by decide) ?_
  refine b18_0 (by decide) (by decide) ?_
  rw [show hx93.1.length = 40 from by decide +kernel]
  rw [show (nw hx93 1 0) = hx94 from rfl]
  refine b18_8 ?_
  refine b1_0 (by decide +kernel) ?_
  rw [show (sJ (sJ hx94 40 0 (0 : Int64)) 40 1 (1 : Int64)) = hx95 from rfl]
  refine b18_12 (by decide +kernel) (by decide +kernel) ?_
  rw [show (sI (sR hx95 39 0 (some 40)) 39 1 (0 : Int32)) = hx96 from rfl]
  refine b35_110 (by unfold akd; decide +kernel) (by unfold vp_in; decide +kernel) ?_
  rw [show (sR hx96 11 ((((((((((((0 : Int32) + (1 : Int32)) + (1 : Int32)) + (1 : Int32)) + (1 : Int32)) + (1 : Int32)) + (1 : Int32)) + (1 : Int32)) + (1 : Int32)) + (1 : Int32)) + (1 : Int32)) + (1 : Int32)).toNatClampNeg (some 39)) = hx97 from rfl]
  refine b35_92 (fun c => absurd c (by decide +kernel)) (fun _ => ?_)
  refine b35_98 (r1 := 11) (by decide +kernel) (by decide +kernel) (by decide) (by decide) ?_
  rw [show hx97.1.length = 41 from by decide +kernel]
  rw [show (nw hx97 4 0) = hx98 from rfl]
  refine b35_106 (by decide) (by decide) ?_
  refine b18_0 (by decide) (by decide) ?_
  rw [show hx98.1.length = 42 from by decide +kernel]
  rw [show (nw hx98 1 0) = hx99 from rfl]
  refine b18_8 ?_
  refine b1_0 (by decide +kernel) ?_
  rw [show (sJ (sJ hx99 42 0 (0 : Int64)) 42 1 (1 : Int64)) = hx100 from rfl]
  refine b18_12 (by decide +kernel) (by decide +kernel) ?_
  rw [show (sI (sR hx100 41 0 (some 42)) 41 1 (0 : Int32)) = hx101 from rfl]
  refine b35_110 (by unfold akd; decide +kernel) (by unfold vp_in; decide +kernel) ?_
  rw [show (sR hx101 11 (((((((((((((0 : Int32) + (1 : Int32)) + (1 : Int32)) + (1 : Int32)) + (1 : Int32)) + (1 : Int32)) + (1 : Int32)) + (1 : Int32)) + (1 : Int32)) + (1 : Int32)) + (1 : Int32)) + (1 : Int32)) + (1 : Int32)).toNatClampNeg (some 41)) = hx102 from rfl]
  refine b35_92 (fun _ => ?_) (fun c => absurd c (by decide +kernel))
  refine b35_117 ?_
  refine b40_42 (by decide +kernel) (by decide) (by decide) ?_
  rw [show (sR hx102 0 3 (some 10)) = hx103 from rfl]
  rw [show hx103.1.length = 43 from by decide +kernel]
  rw [show (nw hx103 13 3) = hx104 from rfl]
  refine b40_50 (by decide +kernel) (by decide) (by decide) ?_
  rw [show (sR hx104 0 4 (some 43)) = hx105 from rfl]
  rw [show hx105.1.length = 44 from by decide +kernel]
  rw [show (nw hx105 2 0) = hx106 from rfl]
  refine b40_57 (by decide) (by decide) ?_
  refine b10_0 (by decide) (by decide) ?_
  rw [show hx106.1.length = 45 from by decide +kernel]
  rw [show (nw hx106 10 12) = hx107 from rfl]
  refine b10_9 (by decide +kernel) (by decide) (by decide) ?_
  rw [show (sR hx107 44 0 (some 45)) = hx108 from rfl]
  rw [show hx108.1.length = 46 from by decide +kernel]
  rw [show (nw hx108 10 12) = hx109 from rfl]
  refine b10_17 (by decide +kernel) (by decide) (by decide) ?_
  rw [show (sR hx109 44 1 (some 46)) = hx110 from rfl]
  rw [show hx110.1.length = 47 from by decide +kernel]
  rw [show (nw hx110 10 12) = hx111 from rfl]
  refine b10_25 (by decide +kernel) (by decide +kernel) ?_
  rw [show (sI (sR hx111 44 2 (some 47)) 44 3 (0 : Int32)) = hx112 from rfl]
  refine b40_61 (by decide +kernel) (by decide) (by decide) ?_
  rw [show (sR hx112 0 5 (some 44)) = hx113 from rfl]
  rw [show hx113.1.length = 48 from by decide +kernel]
  rw [show (nw hx113 7 0) = hx114 from rfl]
  refine b40_68 (by decide) (by decide) ?_
  refine b35_0 (by decide) (by decide) ?_
  rw [show hx114.1.length = 49 from by decide +kernel]
  rw [show (nw hx114 15 13) = hx115 from rfl]
  refine b35_10 (by decide +kernel) (by decide) (by decide) ?_
  rw [show (sR hx115 48 0 (some 49)) = hx116 from rfl]
  rw [show hx116.1.length = 50 from by decide +kernel]
  rw [show (nw hx116 10 12) = hx117 from rfl]
  refine b35_18 (by decide +kernel) (by decide) (by decide) ?_
  rw [show (sR hx117 48 1 (some 50)) = hx118 from rfl]
  rw [show hx118.1.length = 51 from by decide +kernel]
  rw [show (nw hx118 1 0) = hx119 from rfl]
  refine b35_25 ?_
  refine b1_0 (by decide +kernel) ?_
  rw [show (sJ (sJ hx119 51 0 (0 : Int64)) 51 1 (1 : Int64)) = hx120 from rfl]
  refine b35_29 (by decide +kernel) (by decide) (by decide) ?_
  rw [show (sR hx120 48 2 (some 51)) = hx121 from rfl]
  rw [show hx121.1.length = 52 from by decide +kernel]
  rw [show (nw hx121 1 0) = hx122 from rfl]
  refine b35_36 ?_
  refine b1_0 (by decide +kernel) ?_
  rw [show (sJ (sJ hx122 52 0 (0 : Int64)) 52 1 (1 : Int64)) = hx123 from rfl]
  refine b35_40 (by decide +kernel) (by decide) (by decide) ?_
  rw [show (sR hx123 48 3 (some 52)) = hx124 from rfl]
  rw [show hx124.1.length = 53 from by decide +kernel]
  rw [show (nw hx124 1 0) = hx125 from rfl]
  refine b35_47 ?_
  refine b1_0 (by decide +kernel) ?_
  rw [show (sJ (sJ hx125 53 0 (0 : Int64)) 53 1 (1 : Int64)) = hx126 from rfl]
  refine b35_51 (by decide +kernel) (by decide) (by decide) ?_
  rw [show (sR hx126 48 4 (some 53)) = hx127 from rfl]
  rw [show hx127.1.length = 54 from by decide +kernel]
  rw [show (nw hx127 1 0) = hx128 from rfl]
  refine b35_58 ?_
  refine b1_0 (by decide +kernel) ?_
  rw [show (sJ (sJ hx128 54 0 (0 : Int64)) 54 1 (1 : Int64)) = hx129 from rfl]
  refine b35_62 (by decide +kernel) (by decide +kernel) ?_
  rw [show (sI (sI (sI (sI (sI (sR hx129 48 5 (some 54)) 48 6 (0 : Int32)) 48 7 (0 : Int32)) 48 8 (0 : Int32)) 48 9 (0 : Int32)) 48 10 (0 : Int32)) = hx130 from rfl]
  refine b35_92 (fun c => absurd c (by decide +kernel)) (fun _ => ?_)
  refine b35_98 (r1 := 49) (by decide +kernel) (by decide +kernel) (by decide) (by decide) ?_
  rw [show hx130.1.length = 55 from by decide +kernel]
  rw [show (nw hx130 4 0) = hx131 from rfl]
  refine b35_106 (by decide) (by decide) ?_
  refine b18_0 (by decide) (by decide) ?_
  rw [show hx131.1.length = 56 from by decide +kernel]
  rw [show (nw hx131 1 0) = hx132 from rfl]
  refine b18_8 ?_
  refine b1_0 (by decide +kernel) ?_
  rw [show (sJ (sJ hx132 56 0 (0 : Int64)) 56 1 (1 : Int64)) = hx133 from rfl]
  refine b18_12 (by decide +kernel) (by decide +kernel) ?_
  rw [show (sI (sR hx133 55 0 (some 56)) 55 1 (0 : Int32)) = hx134 from rfl]
  refine b35_110 (by unfold akd; decide +kernel) (by unfold vp_in; decide +kernel) ?_
  rw [show (sR hx134 49 (0 : Int32).toNatClampNeg (some 55)) = hx135 from rfl]
  refine b35_92 (fun c => absurd c (by decide +kernel)) (fun _ => ?_)
  refine b35_98 (r1 := 49) (by decide +kernel) (by decide +kernel) (by decide) (by decide) ?_
  rw [show hx135.1.length = 57 from by decide +kernel]
  rw [show (nw hx135 4 0) = hx136 from rfl]
  refine b35_106 (by decide) (by decide) ?_
  refine b18_0 (by decide) (by decide) ?_
  rw [show hx136.1.length = 58 from by decide +kernel]
  rw [show (nw hx136 1 0) = hx137 from rfl]
  refine b18_8 ?_
  refine b1_0 (by decide +kernel) ?_
  rw [show (sJ (sJ hx137 58 0 (0 : Int64)) 58 1 (1 : Int64)) = hx138 from rfl]
  refine b18_12 (by decide +kernel) (by decide +kernel) ?_
  rw [show (sI (sR hx138 57 0 (some 58)) 57 1 (0 : Int32)) = hx139 from rfl]
  refine b35_110 (by unfold akd; decide +kernel) (by unfold vp_in; decide +kernel) ?_
  rw [show (sR hx139 49 ((0 : Int32) + (1 : Int32)).toNatClampNeg (some 57)) = hx140 from rfl]
  refine b35_92 (fun c => absurd c (by decide +kernel)) (fun _ => ?_)
  refine b35_98 (r1 := 49) (by decide +kernel) (by decide +kernel) (by decide) (by decide) ?_
  rw [show hx140.1.length = 59 from by decide +kernel]
  rw [show (nw hx140 4 0) = hx141 from rfl]
  refine b35_106 (by decide) (by decide) ?_
  refine b18_0 (by decide) (by decide) ?_
  rw [show hx141.1.length = 60 from by decide +kernel]
  rw [show (nw hx141 1 0) = hx142 from rfl]
  refine b18_8 ?_
  refine b1_0 (by decide +kernel) ?_
  rw [show (sJ (sJ hx142 60 0 (0 : Int64)) 60 1 (1 : Int64)) = hx143 from rfl]
  refine b18_12 (by decide +kernel) (by decide +kernel) ?_
  rw [show (sI (sR hx143 59 0 (some 60)) 59 1 (0 : Int32)) = hx144 from rfl]
  refine b35_110 (by unfold akd; decide +kernel) (by unfold vp_in; decide +kernel) ?_
  rw [show (sR hx144 49 (((0 : Int32) + (1 : Int32)) + (1 : Int32)).toNatClampNeg (some 59)) = hx145 from rfl]
  refine b35_92 (fun c => absurd c (by decide +kernel)) (fun _ => ?_)
  refine b35_98 (r1 := 49) (by decide +kernel) (by decide +kernel) (by decide) (by decide) ?_
  rw [show hx145.1.length = 61 from by decide +kernel]
  rw [show (nw hx145 4 0) = hx146 from rfl]
  refine b35_106 (by decide) (by decide) ?_
  refine b18_0 (by decide) (by decide) ?_
  rw [show hx146.1.length = 62 from by decide +kernel]
  rw [show (nw hx146 1 0) = hx147 from rfl]
  refine b18_8 ?_
  refine b1_0 (by decide +kernel) ?_
  rw [show (sJ (sJ hx147 62 0 (0 : Int64)) 62 1 (1 : Int64)) = hx148 from rfl]
  refine b18_12 (by decide +kernel) (by decide +kernel) ?_
  rw [show (sI (sR hx148 61 0 (some 62)) 61 1 (0 : Int32)) = hx149 from rfl]
  refine b35_110 (by unfold akd; decide +kernel) (by unfold vp_in; decide +kernel) ?_
  rw [show (sR hx149 49 ((((0 : Int32) + (1 : Int32)) + (1 : Int32)) + (1 : Int32)).toNatClampNeg (some 61)) = hx150 from rfl]
  refine b35_92 (fun c => absurd c (by decide +kernel)) (fun _ => ?_)
  refine b35_98 (r1 := 49) (by decide +kernel) (by decide +kernel) (by decide) (by decide) ?_
  rw [show hx150.1.length = 63 from by decide +kernel]
  rw [show (nw hx150 4 0) = hx151 from rfl]
  refine b35_106 (by decide) (by decide) ?_
  refine b18_0 (by decide) (by decide) ?_
  rw [show hx151.1.length = 64 from by decide +kernel]
  rw [show (nw hx151 1 0) = hx152 from rfl]
  refine b18_8 ?_
  refine b1_0 (by decide +kernel) ?_
  rw [show (sJ (sJ hx152 64 0 (0 : Int64)) 64 1 (1 : Int64)) = hx153 from rfl]
  refine b18_12 (by decide +kernel) (by decide +kernel) ?_
  rw [show (sI (sR hx153 63 0 (some 64)) 63 1 (0 : Int32)) = hx154 from rfl]
  refine b35_110 (by unfold akd; decide +kernel) (by unfold vp_in; decide +kernel) ?_
  rw [show (sR hx154 49 (((((0 : Int32) + (1 : Int32)) + (1 : Int32)) + (1 : Int32)) + (1 : Int32)).toNatClampNeg (some 63)) = hx155 from rfl]
  refine b35_92 (fun c => absurd c (by decide +kernel)) (fun _ => ?_)
  refine b35_98 (r1 := 49) (by decide +kernel) (by decide +kernel) (by decide) (by decide) ?_
  rw [show hx155.1.length = 65 from by decide +kernel]
  rw [show (nw hx155 4 0) = hx156 from rfl]
  refine b35_106 (by decide) (by decide) ?_
  refine b18_0 (by decide) (by decide) ?_
  rw [show hx156.1.length = 66 from by decide +kernel]
  rw [show (nw hx156 1 0) = hx157 from rfl]
  refine b18_8 ?_
  refine b1_0 (by decide +kernel) ?_
  rw [show (sJ (sJ hx157 66 0 (0 : Int64)) 66 1 (1 : Int64)) = hx158 from rfl]
  refine b18_12 (by decide +kernel) (by decide +kernel) ?_
  rw [show (sI (sR hx158 65 0 (some 66)) 65 1 (0 : Int32)) = hx159 from rfl]
  refine b35_110 (by unfold akd; decide +kernel) (by unfold vp_in; decide +kernel) ?_
  rw [show (sR hx159 49 ((((((0 : Int32) + (1 : Int32)) + (1 : Int32)) + (1 : Int32)) + (1 : Int32)) + (1 : Int32)).toNatClampNeg (some 65)) = hx160 from rfl]
  refine b35_92 (fun c => absurd c (by decide +kernel)) (fun _ => ?_)
  refine b35_98 (r1 := 49) (by decide +kernel) (by decide +kernel) (by decide) (by decide) ?_
  rw [show hx160.1.length = 67 from by decide +kernel]
  rw [show (nw hx160 4 0) = hx161 from rfl]
  refine b35_106 (by decide) (by decide) ?_
  refine b18_0 (by decide) (by decide) ?_
  rw [show hx161.1.length = 68 from by decide +kernel]
  rw [show (nw hx161 1 0) = hx162 from rfl]
  refine b18_8 ?_
  refine b1_0 (by decide +kernel) ?_
  rw [show (sJ (sJ hx162 68 0 (0 : Int64)) 68 1 (1 : Int64)) = hx163 from rfl]
  refine b18_12 (by decide +kernel) (by decide +kernel) ?_
  rw [show (sI (sR hx163 67 0 (some 68)) 67 1 (0 : Int32)) = hx164 from rfl]
  refine b35_110 (by unfold akd; decide +kernel) (by unfold vp_in; decide +kernel) ?_
  rw [show (sR hx164 49 (((((((0 : Int32) + (1 : Int32)) + (1 : Int32)) + (1 : Int32)) + (1 : Int32)) + (1 : Int32)) + (1 : Int32)).toNatClampNeg (some 67)) = hx165 from rfl]
  refine b35_92 (fun c => absurd c (by decide +kernel)) (fun _ => ?_)
  refine b35_98 (r1 := 49) (by decide +kernel) (by decide +kernel) (by decide) (by decide) ?_
  rw [show hx165.1.length = 69 from by decide +kernel]
  rw [show (nw hx165 4 0) = hx166 from rfl]
  refine b35_106 (by decide) (by decide) ?_
  refine b18_0 (by decide) (by decide) ?_
  rw [show hx166.1.length = 70 from by decide +kernel]
  rw [show (nw hx166 1 0) = hx167 from rfl]
  refine b18_8 ?_
  refine b1_0 (by decide +kernel) ?_
  rw [show (sJ (sJ hx167 70 0 (0 : Int64)) 70 1 (1 : Int64)) = hx168 from rfl]
  refine b18_12 (by decide +kernel) (by decide +kernel) ?_
  rw [show (sI (sR hx168 69 0 (some 70)) 69 1 (0 : Int32)) = hx169 from rfl]
  refine b35_110 (by unfold akd; decide +kernel) (by unfold vp_in; decide +kernel) ?_
  rw [show (sR hx169 49 ((((((((0 : Int32) + (1 : Int32)) + (1 : Int32)) + (1 : Int32)) + (1 : Int32)) + (1 : Int32)) + (1 : Int32)) + (1 : Int32)).toNatClampNeg (some 69)) = hx170 from rfl]
  refine b35_92 (fun c => absurd c (by decide +kernel)) (fun _ => ?_)
  refine b35_98 (r1 := 49) (by decide +kernel) (by decide +kernel) (by decide) (by decide) ?_
  rw [show hx170.1.length = 71 from by decide +kernel]
  rw [show (nw hx170 4 0) = hx171 from rfl]
  refine b35_106 (by decide) (by decide) ?_
  refine b18_0 (by decide) (by decide) ?_
  rw [show hx171.1.length = 72 from by decide +kernel]
  rw [show (nw hx171 1 0) = hx172 from rfl]
  refine b18_8 ?_
  refine b1_0 (by decide +kernel) ?_
  rw [show (sJ (sJ hx172 72 0 (0 : Int64)) 72 1 (1 : Int64)) = hx173 from rfl]
  refine b18_12 (by decide +kernel) (by decide +kernel) ?_
  rw [show (sI (sR hx173 71 0 (some 72)) 71 1 (0 : Int32)) = hx174 from rfl]
  refine b35_110 (by unfold akd; decide +kernel) (by unfold vp_in; decide +kernel) ?_
  rw [show (sR hx174 49 (((((((((0 : Int32) + (1 : Int32)) + (1 : Int32)) + (1 : Int32)) + (1 : Int32)) + (1 : Int32)) + (1 : Int32)) + (1 : Int32)) + (1 : Int32)).toNatClampNeg (some 71)) = hx175 from rfl]
  refine b35_92 (fun c => absurd c (by decide +kernel)) (fun _ => ?_)
  refine b35_98 (r1 := 49) (by decide +kernel) (by decide +kernel) (by decide) (by decide) ?_
  rw [show hx175.1.length = 73 from by decide +kernel]
  rw [show (nw hx175 4 0) = hx176 from rfl]
  refine b35_106 (by decide) (by decide) ?_
  refine b18_0 (by decide) (by decide) ?_
  rw [show hx176.1.length = 74 from by decide +kernel]
  rw [show (nw hx176 1 0) = hx177 from rfl]
  refine b18_8 ?_
  refine b1_0 (by decide +kernel) ?_
  rw [show (sJ (sJ hx177 74 0 (0 : Int64)) 74 1 (1 : Int64)) = hx178 from rfl]
  refine b18_12 (by decide +kernel) (by decide +kernel) ?_
  rw [show (sI (sR hx178 73 0 (some 74)) 73 1 (0 : Int32)) = hx179 from rfl]
  refine b35_110 (by unfold akd; decide +kernel) (by unfold vp_in; decide +kernel) ?_
  rw [show (sR hx179 49 ((((((((((0 : Int32) + (1 : Int32)) + (1 : Int32)) + (1 : Int32)) + (1 : Int32)) + (1 : Int32)) + (1 : Int32)) + (1 : Int32)) + (1 : Int32)) + (1 : Int32)).toNatClampNeg (some 73)) = hx180 from rfl]
  refine b35_92 (fun c => absurd c (by decide +kernel)) (fun _ => ?_)
  refine b35_98 (r1 := 49) (by decide +kernel) (by decide +kernel) (by decide) (by decide) ?_
  rw [show hx180.1.length = 75 from by decide +kernel]
  rw [show (nw hx180 4 0) = hx181 from rfl]
  refine b35_106 (by decide) (by decide) ?_
  refine b18_0 (by decide) (by decide) ?_
  rw [show hx181.1.length = 76 from by decide +kernel]
  rw [show (nw hx181 1 0) = hx182 from rfl]
  refine b18_8 ?_
  refine b1_0 (by decide +kernel) ?_
  rw [show (sJ (sJ hx182 76 0 (0 : Int64)) 76 1 (1 : Int64)) = hx183 from rfl]
  refine b18_12 (by decide +kernel) (by decide +kernel) ?_
  rw [show (sI (sR hx183 75 0 (some 76)) 75 1 (0 : Int32)) = hx184 from rfl]
  refine b35_110 (by unfold akd; decide +kernel) (by unfold vp_in; decide +kernel) ?_
  rw [show (sR hx184 49 (((((((((((0 : Int32) + (1 : Int32)) + (1 : Int32)) + (1 : Int32)) + (1 : Int32)) + (1 : Int32)) + (1 : Int32)) + (1 : Int32)) + (1 : Int32)) + (1 : Int32)) + (1 : Int32)).toNatClampNeg (some 75)) = hx185 from rfl]
  refine b35_92 (fun c => absurd c (by decide +kernel)) (fun _ => ?_)
  refine b35_98 (r1 := 49) (by decide +kernel) (by decide +kernel) (by decide) (by decide) ?_
  rw [show hx185.1.length = 77 from by decide +kernel]
  rw [show (nw hx185 4 0) = hx186 from rfl]
  refine b35_106 (by decide) (by decide) ?_
  refine b18_0 (by decide) (by decide) ?_
  rw [show hx186.1.length = 78 from by decide +kernel]
  rw [show (nw hx186 1 0) = hx187 from rfl]
  refine b18_8 ?_
  refine b1_0 (by decide +kernel) ?_
  rw [show (sJ (sJ hx187 78 0 (0 : Int64)) 78 1 (1 : Int64)) = hx188 from rfl]
  refine b18_12 (by decide +kernel) (by decide +kernel) ?_
  rw [show (sI (sR hx188 77 0 (some 78)) 77 1 (0 : Int32)) = hx189 from rfl]
  refine b35_110 (by unfold akd; decide +kernel) (by unfold vp_in; decide +kernel) ?_
  rw [show (sR hx189 49 ((((((((((((0 : Int32) + (1 : Int32)) + (1 : Int32)) + (1 : Int32)) + (1 : Int32)) + (1 : Int32)) + (1 : Int32)) + (1 : Int32)) + (1 : Int32)) + (1 : Int32)) + (1 : Int32)) + (1 : Int32)).toNatClampNeg (some 77)) = hx190 from rfl]
  refine b35_92 (fun c => absurd c (by decide +kernel)) (fun _ => ?_)
  refine b35_98 (r1 := 49) (by decide +kernel) (by decide +kernel) (by decide) (by decide) ?_
  rw [show hx190.1.length = 79 from by decide +kernel]
  rw [show (nw hx190 4 0) = hx191 from rfl]
  refine b35_106 (by decide) (by decide) ?_
  refine b18_0 (by decide) (by decide) ?_
  rw [show hx191.1.length = 80 from by decide +kernel]
  rw [show (nw hx191 1 0) = hx192 from rfl]
  refine b18_8 ?_
  refine b1_0 (by decide +kernel) ?_
  rw [show (sJ (sJ hx192 80 0 (0 : Int64)) 80 1 (1 : Int64)) = hx193 from rfl]
  refine b18_12 (by decide +kernel) (by decide +kernel) ?_
  rw [show (sI (sR hx193 79 0 (some 80)) 79 1 (0 : Int32)) = hx194 from rfl]
  refine b35_110 (by unfold akd; decide +kernel) (by unfold vp_in; decide +kernel) ?_
  rw [show (sR hx194 49 (((((((((((((0 : Int32) + (1 : Int32)) + (1 : Int32)) + (1 : Int32)) + (1 : Int32)) + (1 : Int32)) + (1 : Int32)) + (1 : Int32)) + (1 : Int32)) + (1 : Int32)) + (1 : Int32)) + (1 : Int32)) + (1 : Int32)).toNatClampNeg (some 79)) = hx195 from rfl]
  refine b35_92 (fun _ => ?_) (fun c => absurd c (by decide +kernel))
  refine b35_117 ?_
  refine b40_72 (by decide +kernel) (by decide) (by decide) ?_
  rw [show (sR hx195 0 6 (some 48)) = hx196 from rfl]
  rw [show hx196.1.length = 81 from by decide +kernel]
  rw [show (nw hx196 4 0) = hx197 from rfl]
  refine b40_79 (by decide) (by decide) ?_
  refine b18_0 (by decide) (by decide) ?_
  rw [show hx197.1.length = 82 from by decide +kernel]
  rw [show (nw hx197 1 0) = hx198 from rfl]
  refine b18_8 ?_
  refine b1_0 (by decide +kernel) ?_
  rw [show (sJ (sJ hx198 82 0 (0 : Int64)) 82 1 (1 : Int64)) = hx199 from rfl]
  refine b18_12 (by decide +kernel) (by decide +kernel) ?_
  rw [show (sI (sR hx199 81 0 (some 82)) 81 1 (0 : Int32)) = hx200 from rfl]
  refine b40_83 (by decide +kernel) (by decide) (by decide) ?_
  rw [show (sR hx200 0 7 (some 81)) = hx201 from rfl]
  rw [show hx201.1.length = 83 from by decide +kernel]
  rw [show (nw hx201 1 0) = hx202 from rfl]
  refine b40_90 ?_
  refine b1_0 (by decide +kernel) ?_
  rw [show (sJ (sJ hx202 83 0 (0 : Int64)) 83 1 (1 : Int64)) = hx203 from rfl]
  refine b40_94 (by decide +kernel) (by decide) (by decide) ?_
  rw [show (sR hx203 0 8 (some 83)) = hx204 from rfl]
  rw [show hx204.1.length = 84 from by decide +kernel]
  rw [show (nw hx204 1 0) = hx205 from rfl]
  refine b40_101 ?_
  refine b1_0 (by decide +kernel) ?_
  rw [show (sJ (sJ hx205 84 0 (0 : Int64)) 84 1 (1 : Int64)) = hx206 from rfl]
  refine b40_105 (by decide +kernel) (by decide) (by decide) ?_
  rw [show (sR hx206 0 9 (some 84)) = hx207 from rfl]
  rw [show hx207.1.length = 85 from by decide +kernel]
  rw [show (nw hx207 1 0) = hx208 from rfl]
  refine b40_112 ?_
  refine b1_0 (by decide +kernel) ?_
  rw [show (sJ (sJ hx208 85 0 (0 : Int64)) 85 1 (1 : Int64)) = hx209 from rfl]
  refine b40_116 (by decide +kernel) (by decide +kernel) ?_
  rw [show (sI (sR hx209 0 10 (some 85)) 0 11 (0 : Int32)) = hx210 from rfl]
  refine b40_126 (fun c => absurd c (by decide +kernel)) (fun _ => ?_)
  refine b40_131 (r1 := 1) (by decide +kernel) (by decide +kernel) (by decide) (by decide) ?_
  rw [show hx210.1.length = 86 from by decide +kernel]
  rw [show (nw hx210 3 0) = hx211 from rfl]
  refine b40_139 (by decide) (by decide) ?_
  refine b15_0 (by decide) (by decide) ?_
  rw [show hx211.1.length = 87 from by decide +kernel]
  rw [show (nw hx211 10 40) = hx212 from rfl]
  refine b15_9 (by decide +kernel) (by decide +kernel) ?_
  rw [show (sI (sI (sI (sR hx212 86 0 (some 87)) 86 1 (0 : Int32)) 86 2 (0 : Int32)) 86 3 (0 : Int32)) = hx213 from rfl]
  refine b40_143 (by unfold akd; decide +kernel) (by unfold vp_in; decide +kernel) ?_
  rw [show (sR hx213 1 (0 : Int32).toNatClampNeg (some 86)) = hx214 from rfl]
  refine b40_126 (fun c => absurd c (by decide +kernel)) (fun _ => ?_)
  refine b40_131 (r1 := 1) (by decide +kernel) (by decide +kernel) (by decide) (by decide) ?_
  rw [show hx214.1.length = 88 from by decide +kernel]
  rw [show (nw hx214 3 0) = hx215 from rfl]
  refine b40_139 (by decide) (by decide) ?_
  refine b15_0 (by decide) (by decide) ?_
  rw [show hx215.1.length = 89 from by decide +kernel]
  rw [show (nw hx215 10 40) = hx216 from rfl]
  refine b15_9 (by decide +kernel) (by decide +kernel) ?_
  rw [show (sI (sI (sI (sR hx216 88 0 (some 89)) 88 1 (0 : Int32)) 88 2 (0 : Int32)) 88 3 (0 : Int32)) = hx217 from rfl]
  refine b40_143 (by unfold akd; decide +kernel) (by unfold vp_in; decide +kernel) ?_
  rw [show (sR hx217 1 ((0 : Int32) + (1 : Int32)).toNatClampNeg (some 88)) = hx218 from rfl]
  refine b40_126 (fun c => absurd c (by decide +kernel)) (fun _ => ?_)
  refine b40_131 (r1 := 1) (by decide +kernel) (by decide +kernel) (by decide) (by decide) ?_
  rw [show hx218.1.length = 90 from by decide +kernel]
  rw [show (nw hx218 3 0) = hx219 from rfl]
  refine b40_139 (by decide) (by decide) ?_
  refine b15_0 (by decide) (by decide) ?_
  rw [show hx219.1.length = 91 from by decide +kernel]
  rw [show (nw hx219 10 40) = hx220 from rfl]
  refine b15_9 (by decide +kernel) (by decide +kernel) ?_
  rw [show (sI (sI (sI (sR hx220 90 0 (some 91)) 90 1 (0 : Int32)) 90 2 (0 : Int32)) 90 3 (0 : Int32)) = hx221 from rfl]
  refine b40_143 (by unfold akd; decide +kernel) (by unfold vp_in; decide +kernel) ?_
  rw [show (sR hx221 1 (((0 : Int32) + (1 : Int32)) + (1 : Int32)).toNatClampNeg (some 90)) = hx222 from rfl]
  refine b40_126 (fun c => absurd c (by decide +kernel)) (fun _ => ?_)
  refine b40_131 (r1 := 1) (by decide +kernel) (by decide +kernel) (by decide) (by decide) ?_
  rw [show hx222.1.length = 92 from by decide +kernel]
  rw [show (nw hx222 3 0) = hx223 from rfl]
  refine b40_139 (by decide) (by decide) ?_
  refine b15_0 (by decide) (by decide) ?_
  rw [show hx223.1.length = 93 from by decide +kernel]
  rw [show (nw hx223 10 40) = hx224 from rfl]
  refine b15_9 (by decide +kernel) (by decide +kernel) ?_
  rw [show (sI (sI (sI (sR hx224 92 0 (some 93)) 92 1 (0 : Int32)) 92 2 (0 : Int32)) 92 3 (0 : Int32)) = hx225 from rfl]
  refine b40_143 (by unfold akd; decide +kernel) (by unfold vp_in; decide +kernel) ?_
  rw [show (sR hx225 1 ((((0 : Int32) + (1 : Int32)) + (1 : Int32)) + (1 : Int32)).toNatClampNeg (some 92)) = hx226 from rfl]
  refine b40_126 (fun _ => ?_) (fun c => absurd c (by decide +kernel))
  refine b40_150 ?_
  refine b40_152 (fun c => absurd c (by decide +kernel)) (fun _ => ?_)
  refine b40_157 (r1 := 43) (by decide +kernel) (by decide +kernel) (by decide) (by decide) ?_
  rw [show hx226.1.length = 94 from by decide +kernel]
  rw [show (nw hx226 0 0) = hx227 from rfl]
  refine b40_165 (by decide) (by decide) ?_
  refine b0_0 (by decide) (by decide) ?_
  rw [show hx227.1.length = 95 from by decide +kernel]
  rw [show (nw hx227 2 0) = hx228 from rfl]
  refine b0_8 (by decide) (by decide) ?_
  refine b10_0 (by decide) (by decide) ?_
  rw [show hx228.1.length = 96 from by decide +kernel]
  rw [show (nw hx228 10 12) = hx229 from rfl]
  refine b10_9 (by decide +kernel) (by decide) (by decide) ?_
  rw [show (sR hx229 95 0 (some 96)) = hx230 from rfl]
  rw [show hx230.1.length = 97 from by decide +kernel]
  rw [show (nw hx230 10 12) = hx231 from rfl]
  refine b10_17 (by decide +kernel) (by decide) (by decide) ?_
  rw [show (sR hx231 95 1 (some 97)) = hx232 from rfl]
  rw [show hx232.1.length = 98 from by decide +kernel]
  rw [show (nw hx232 10 12) = hx233 from rfl]
  refine b10_25 (by decide +kernel) (by decide +kernel) ?_
  rw [show (sI (sR hx233 95 2 (some 98)) 95 3 (0 : Int32)) = hx234 from rfl]
  refine b0_12 (by decide +kernel) (by decide) (by decide) ?_
  rw [show (sR hx234 94 0 (some 95)) = hx235 from rfl]
  rw [show hx235.1.length = 99 from by decide +kernel]
  rw [show (nw hx235 4 0) = hx236 from rfl]
  refine b0_19 (by decide) (by decide) ?_
  refine b18_0 (by decide) (by decide) ?_
  rw [show hx236.1.length = 100 from by decide +kernel]
  rw [show (nw hx236 1 0) = hx237 from rfl]
  refine b18_8 ?_
  refine b1_0 (by decide +kernel) ?_
  rw [show (sJ (sJ hx237 100 0 (0 : Int64)) 100 1 (1 : Int64)) = hx238 from rfl]
  refine b18_12 (by decide +kernel) (by decide +kernel) ?_
  rw [show (sI (sR hx238 99 0 (some 100)) 99 1 (0 : Int32)) = hx239 from rfl]
  refine b0_23 (by decide +kernel) (by decide +kernel) ?_
  rw [show (sI (sR hx239 94 1 (some 99)) 94 2 (0 : Int32)) = hx240 from rfl]
  refine b40_169 (by unfold akd; decide +kernel) (by unfold vp_in; decide +kernel) ?_
  rw [show (sR hx240 43 (0 : Int32).toNatClampNeg (some 94)) = hx241 from rfl]
  refine b40_152 (fun c => absurd c (by decide +kernel)) (fun _ => ?_)
  refine b40_157 (r1 := 43) (by decide +kernel) (by decide +kernel) (by decide) (by decide) ?_
  rw [show hx241.1.length = 101 from by decide +kernel]
  rw [show (nw hx241 0 0) = hx242 from rfl]
  refine b40_165 (by decide) (by decide) ?_
  refine b0_0 (by decide) (by decide) ?_
  rw [show hx242.1.length = 102 from by decide +kernel]
  rw [show (nw hx242 2 0) = hx243 from rfl]
  refine b0_8 (by decide) (by decide) ?_
  refine b10_0 (by decide) (by decide) ?_
  rw [show hx243.1.length = 103 from by decide +kernel]
  rw [show (nw hx243 10 12) = hx244 from rfl]
  refine b10_9 (by decide +kernel) (by decide) (by decide) ?_
  rw [show (sR hx244 102 0 (some 103)) = hx245 from rfl]
  rw [show hx245.1.length = 104 from by decide +kernel]
  rw [show (nw hx245 10 12) = hx246 from rfl]
  refine b10_17 (by decide +kernel) (by decide) (by decide) ?_
  rw [show (sR hx246 102 1 (some 104)) = hx247 from rfl]
  rw [show hx247.1.length = 105 from by decide +kernel]
  rw [show (nw hx247 10 12) = hx248 from rfl]
  refine b10_25 (by decide +kernel) (by decide +kernel) ?_
  rw [show (sI (sR hx248 102 2 (some 105)) 102 3 (0 : Int32)) = hx249 from rfl]
  refine b0_12 (by decide +kernel) (by decide) (by decide) ?_
  rw [show (sR hx249 101 0 (some 102)) = hx250 from rfl]
  rw [show hx250.1.length = 106 from by decide +kernel]
  rw [show (nw hx250 4 0) = hx251 from rfl]
  refine b0_19 (by decide) (by decide) ?_
  refine b18_0 (by decide) (by decide) ?_
  rw [show hx251.1.length = 107 from by decide +kernel]
  rw [show (nw hx251 1 0) = hx252 from rfl]
  refine b18_8 ?_
  refine b1_0 (by decide +kernel) ?_
  rw [show (sJ (sJ hx252 107 0 (0 : Int64)) 107 1 (1 : Int64)) = hx253 from rfl]
  refine b18_12 (by decide +kernel) (by decide +kernel) ?_
  rw [show (sI (sR hx253 106 0 (some 107)) 106 1 (0 : Int32)) = hx254 from rfl]
  refine b0_23 (by decide +kernel) (by decide +kernel) ?_
  rw [show (sI (sR hx254 101 1 (some 106)) 101 2 (0 : Int32)) = hx255 from rfl]
  refine b40_169 (by unfold akd; decide +kernel) (by unfold vp_in; decide +kernel) ?_
  rw [show (sR hx255 43 ((0 : Int32) + (1 : Int32)).toNatClampNeg (some 101)) = hx256 from rfl]
  refine b40_152 (fun c => absurd c (by decide +kernel)) (fun _ => ?_)
  refine b40_157 (r1 := 43) (by decide +kernel) (by decide +kernel) (by decide) (by decide) ?_
  rw [show hx256.1.length = 108 from by decide +kernel]
  rw [show (nw hx256 0 0) = hx257 from rfl]
  refine b40_165 (by decide) (by decide) ?_
  refine b0_0 (by decide) (by decide) ?_
  rw [show hx257.1.length = 109 from by decide +kernel]
  rw [show (nw hx257 2 0) = hx258 from rfl]
  refine b0_8 (by decide) (by decide) ?_
  refine b10_0 (by decide) (by decide) ?_
  rw [show hx258.1.length = 110 from by decide +kernel]
  rw [show (nw hx258 10 12) = hx259 from rfl]
  refine b10_9 (by decide +kernel) (by decide) (by decide) ?_
  rw [show (sR hx259 109 0 (some 110)) = hx260 from rfl]
  rw [show hx260.1.length = 111 from by decide +kernel]
  rw [show (nw hx260 10 12) = hx261 from rfl]
  refine b10_17 (by decide +kernel) (by decide) (by decide) ?_
  rw [show (sR hx261 109 1 (some 111)) = hx262 from rfl]
  rw [show hx262.1.length = 112 from by decide +kernel]
  rw [show (nw hx262 10 12) = hx263 from rfl]
  refine b10_25 (by decide +kernel) (by decide +kernel) ?_
  rw [show (sI (sR hx263 109 2 (some 112)) 109 3 (0 : Int32)) = hx264 from rfl]
  refine b0_12 (by decide +kernel) (by decide) (by decide) ?_
  rw [show (sR hx264 108 0 (some 109)) = hx265 from rfl]
  rw [show hx265.1.length = 113 from by decide +kernel]
  rw [show (nw hx265 4 0) = hx266 from rfl]
  refine b0_19 (by decide) (by decide) ?_
  refine b18_0 (by decide) (by decide) ?_
  rw [show hx266.1.length = 114 from by decide +kernel]
  rw [show (nw hx266 1 0) = hx267 from rfl]
  refine b18_8 ?_
  refine b1_0 (by decide +kernel) ?_
  rw [show (sJ (sJ hx267 114 0 (0 : Int64)) 114 1 (1 : Int64)) = hx268 from rfl]
  refine b18_12 (by decide +kernel) (by decide +kernel) ?_
  rw [show (sI (sR hx268 113 0 (some 114)) 113 1 (0 : Int32)) = hx269 from rfl]
  refine b0_23 (by decide +kernel) (by decide +kernel) ?_
  rw [show (sI (sR hx269 108 1 (some 113)) 108 2 (0 : Int32)) = hx270 from rfl]
  refine b40_169 (by unfold akd; decide +kernel) (by unfold vp_in; decide +kernel) ?_
  rw [show (sR hx270 43 (((0 : Int32) + (1 : Int32)) + (1 : Int32)).toNatClampNeg (some 108)) = hx271 from rfl]
  refine b40_152 (fun _ => ?_) (fun c => absurd c (by decide +kernel))
  refine b40_176 ?_
  exact nx
set_option maxHeartbeats 4000000 in
set_option maxRecDepth 100000 in
theorem ctor_m {Q : Option Value → HP → Prop} (nx : Q none hx318) : X 71 Q 23 722 0 [.ref 115] [] hx272 := by
  refine b71_0 (by decide) (by decide) ?_
  rw [show hx272.1.length = 116 from by decide +kernel]
  rw [show (nw hx272 10 4) = hx273 from rfl]
  refine b71_8 (by decide +kernel) (by decide) (by decide) ?_
  rw [show (sR hx273 115 1 (some 116)) = hx274 from rfl]
  rw [show hx274.1.length = 117 from by decide +kernel]
  rw [show (nw hx274 10 4) = hx275 from rfl]
  refine b71_15 (by decide +kernel) (by unfold vp_in; decide +kernel) (by unfold vp_in; decide +kernel) (by unfold vp_in; decide +kernel) (by unfold vp_in; decide +kernel) (by decide +kernel) (by decide) (by decide) ?_
  rw [show (sR (sI (sI (sI (sI hx275 117 (0 : Int32).toNatClampNeg (-1 : Int32)) 117 (1 : Int32).toNatClampNeg (-1 : Int32)) 117 (2 : Int32).toNatClampNeg (-1 : Int32)) 117 (3 : Int32).toNatClampNeg (-1 : Int32)) 115 2 (some 117)) = hx276 from rfl]
  rw [show hx276.1.length = 118 from by decide +kernel]
  rw [show (nw hx276 10 160) = hx277 from rfl]
  refine b71_40 (by decide +kernel) (by decide) (by decide) ?_
  rw [show (sR hx277 115 3 (some 118)) = hx278 from rfl]
  rw [show hx278.1.length = 119 from by decide +kernel]
  rw [show (nw hx278 10 10) = hx279 from rfl]
  refine b71_48 (by decide +kernel) (by decide) (by decide) ?_
  rw [show (sR hx279 115 5 (some 119)) = hx280 from rfl]
  rw [show hx280.1.length = 120 from by decide +kernel]
  rw [show (nw hx280 10 80) = hx281 from rfl]
  refine b71_56 (by decide +kernel) (by decide) (by decide) ?_
  rw [show (sR hx281 115 6 (some 120)) = hx282 from rfl]
  rw [show hx282.1.length = 121 from by decide +kernel]
  rw [show (nw hx282 10 80) = hx283 from rfl]
  refine b71_64 (by decide +kernel) (by decide) (by decide) ?_
  rw [show (sR hx283 115 7 (some 121)) = hx284 from rfl]
  rw [show hx284.1.length = 122 from by decide +kernel]
  rw [show (nw hx284 10 80) = hx285 from rfl]
  refine b71_72 (by decide +kernel) (by decide) (by decide) ?_
  rw [show (sR hx285 115 8 (some 122)) = hx286 from rfl]
  rw [show hx286.1.length = 123 from by decide +kernel]
  rw [show (nw hx286 10 12) = hx287 from rfl]
  refine b71_80 (by decide +kernel) (by decide) (by decide) ?_
  rw [show (sR hx287 115 12 (some 123)) = hx288 from rfl]
  rw [show hx288.1.length = 124 from by decide +kernel]
  rw [show (nw hx288 10 12) = hx289 from rfl]
  refine b71_88 (by decide +kernel) (by decide) (by decide) ?_
  rw [show (sR hx289 115 13 (some 124)) = hx290 from rfl]
  rw [show hx290.1.length = 125 from by decide +kernel]
  rw [show (nw hx290 10 12) = hx291 from rfl]
  refine b71_96 (by decide +kernel) (by decide) (by decide) ?_
  rw [show (sR hx291 115 14 (some 125)) = hx292 from rfl]
  rw [show hx292.1.length = 126 from by decide +kernel]
  rw [show (nw hx292 10 13) = hx293 from rfl]
  refine b71_104 (by decide +kernel) (by decide) (by decide) ?_
  rw [show (sR hx293 115 15 (some 126)) = hx294 from rfl]
  rw [show hx294.1.length = 127 from by decide +kernel]
  rw [show (nw hx294 11 13) = hx295 from rfl]
  refine b71_112 (by decide +kernel) (by decide) (by decide) ?_
  rw [show (sR hx295 115 16 (some 127)) = hx296 from rfl]
  rw [show hx296.1.length = 128 from by decide +kernel]
  rw [show (nw hx296 11 13) = hx297 from rfl]
  refine b71_120 (by decide +kernel) (by decide) (by decide) ?_
  rw [show (sR hx297 115 17 (some 128)) = hx298 from rfl]
  rw [show hx298.1.length = 129 from by decide +kernel]
  rw [show (nw hx298 10 12) = hx299 from rfl]
  refine b71_128 (by decide +kernel) (by decide) (by decide) ?_
  rw [show (sR hx299 115 18 (some 129)) = hx300 from rfl]
  rw [show hx300.1.length = 130 from by decide +kernel]
  rw [show (nw hx300 10 13) = hx301 from rfl]
  refine b71_136 (by decide +kernel) (by decide) (by decide) ?_
  rw [show (sR hx301 115 26 (some 130)) = hx302 from rfl]
  rw [show hx302.1.length = 131 from by decide +kernel]
  rw [show (nw hx302 11 13) = hx303 from rfl]
  refine b71_144 (by decide +kernel) (by decide) (by decide) ?_
  rw [show (sR hx303 115 27 (some 131)) = hx304 from rfl]
  rw [show hx304.1.length = 132 from by decide +kernel]
  rw [show (nw hx304 11 13) = hx305 from rfl]
  refine b71_152 (by decide +kernel) (by decide) (by decide) ?_
  rw [show (sR hx305 115 28 (some 132)) = hx306 from rfl]
  rw [show hx306.1.length = 133 from by decide +kernel]
  rw [show (nw hx306 10 12) = hx307 from rfl]
  refine b71_160 (by decide +kernel) (by decide) (by decide) ?_
  rw [show (sR hx307 115 29 (some 133)) = hx308 from rfl]
  rw [show hx308.1.length = 134 from by decide +kernel]
  rw [show (nw hx308 12 3) = hx309 from rfl]
  refine b71_167 (by decide +kernel) (by decide) (by decide) ?_
  rw [show (sR hx309 115 32 (some 134)) = hx310 from rfl]
  rw [show hx310.1.length = 135 from by decide +kernel]
  rw [show (nw hx310 10 120) = hx311 from rfl]
  refine b71_175 (by decide +kernel) (by decide) (by decide) ?_
  rw [show (sR hx311 115 33 (some 135)) = hx312 from rfl]
  rw [show hx312.1.length = 136 from by decide +kernel]
  rw [show (nw hx312 11 3) = hx313 from rfl]
  refine b71_182 (by decide +kernel) (by decide) (by decide) ?_
  rw [show (sR hx313 115 34 (some 136)) = hx314 from rfl]
  rw [show hx314.1.length = 137 from by decide +kernel]
  rw [show (nw hx314 11 3) = hx315 from rfl]
  refine b71_189 (by decide +kernel) (by decide) (by decide) ?_
  rw [show (sR hx315 115 35 (some 137)) = hx316 from rfl]
  rw [show hx316.1.length = 138 from by decide +kernel]
  rw [show (nw hx316 10 37) = hx317 from rfl]
  refine b71_197 (by decide +kernel) ?_
  rw [show (sR hx317 115 36 (some 138)) = hx318 from rfl]
  exact nx
