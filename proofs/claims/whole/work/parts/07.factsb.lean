/-! CALLS: where the words stand -/
def aWd (mi : Nat) : Cond := match (aMt mi).2.2.2.2.2 with
  | [] => .code (aMt mi).1 (aMt mi).2.2.1 (aMt mi).2.2.2.1 (aMt mi).2.2.2.2.1
  | h :: hh => .codeWith (aMt mi).1 (aMt mi).2.2.1 (aMt mi).2.2.2.1 (aMt mi).2.2.2.2.1 (h :: hh)
set_option maxRecDepth 100000 in
theorem cw0 : aWd 0 ∈ lw_tbl := List.mem_of_getElem? (i := 164) rfl
set_option maxRecDepth 100000 in
theorem cw1 : aWd 1 ∈ lw_tbl := List.mem_of_getElem? (i := 160) rfl
set_option maxRecDepth 100000 in
theorem cw2 : aWd 2 ∈ lw_tbl := List.mem_of_getElem? (i := 154) rfl
set_option maxRecDepth 100000 in
theorem cw3 : aWd 3 ∈ lw_tbl := List.mem_of_getElem? (i := 206) rfl
set_option maxRecDepth 100000 in
theorem cw4 : aWd 4 ∈ lw_tbl := List.mem_of_getElem? (i := 246) rfl
set_option maxRecDepth 100000 in
theorem cw5 : aWd 5 ∈ lw_tbl := List.mem_of_getElem? (i := 240) rfl
set_option maxRecDepth 100000 in
theorem cw6 : aWd 6 ∈ lw_tbl := List.mem_of_getElem? (i := 328) rfl
set_option maxRecDepth 100000 in
theorem cw7 : aWd 7 ∈ lw_tbl := List.mem_of_getElem? (i := 352) rfl
set_option maxRecDepth 100000 in
theorem cw8 : aWd 8 ∈ lw_tbl := List.mem_of_getElem? (i := 349) rfl
set_option maxRecDepth 100000 in
theorem cw9 : aWd 9 ∈ lw_tbl := List.mem_of_getElem? (i := 346) rfl
set_option maxRecDepth 100000 in
theorem cw10 : aWd 10 ∈ lw_tbl := List.mem_of_getElem? (i := 146) rfl
set_option maxRecDepth 100000 in
theorem cw11 : aWd 11 ∈ lw_tbl := List.mem_of_getElem? (i := 1707) rfl
set_option maxRecDepth 100000 in
theorem cw12 : aWd 12 ∈ lw_tbl := List.mem_of_getElem? (i := 417) rfl
set_option maxRecDepth 100000 in
theorem cw13 : aWd 13 ∈ lw_tbl := List.mem_of_getElem? (i := 412) rfl
set_option maxRecDepth 100000 in
theorem cw14 : aWd 14 ∈ lw_tbl := List.mem_of_getElem? (i := 1994) rfl
set_option maxRecDepth 100000 in
theorem cw15 : aWd 15 ∈ lw_tbl := List.mem_of_getElem? (i := 1999) rfl
set_option maxRecDepth 100000 in
theorem cw16 : aWd 16 ∈ lw_tbl := List.mem_of_getElem? (i := 1990) rfl
set_option maxRecDepth 100000 in
theorem cw17 : aWd 17 ∈ lw_tbl := List.mem_of_getElem? (i := 1986) rfl
set_option maxRecDepth 100000 in
theorem cw18 : aWd 18 ∈ lw_tbl := List.mem_of_getElem? (i := 499) rfl
set_option maxRecDepth 100000 in
theorem cw19 : aWd 19 ∈ lw_tbl := List.mem_of_getElem? (i := 536) rfl
set_option maxRecDepth 100000 in
theorem cw20 : aWd 20 ∈ lw_tbl := List.mem_of_getElem? (i := 526) rfl
set_option maxRecDepth 100000 in
theorem cw21 : aWd 21 ∈ lw_tbl := List.mem_of_getElem? (i := 523) rfl
set_option maxRecDepth 100000 in
theorem cw22 : aWd 22 ∈ lw_tbl := List.mem_of_getElem? (i := 547) rfl
set_option maxRecDepth 100000 in
theorem cw23 : aWd 23 ∈ lw_tbl := List.mem_of_getElem? (i := 543) rfl
set_option maxRecDepth 100000 in
theorem cw24 : aWd 24 ∈ lw_tbl := List.mem_of_getElem? (i := 519) rfl
set_option maxRecDepth 100000 in
theorem cw25 : aWd 25 ∈ lw_tbl := List.mem_of_getElem? (i := 495) rfl
set_option maxRecDepth 100000 in
theorem cw26 : aWd 26 ∈ lw_tbl := List.mem_of_getElem? (i := 490) rfl
set_option maxRecDepth 100000 in
theorem cw27 : aWd 27 ∈ lw_tbl := List.mem_of_getElem? (i := 2003) rfl
set_option maxRecDepth 100000 in
theorem cw28 : aWd 28 ∈ lw_tbl := List.mem_of_getElem? (i := 564) rfl
set_option maxRecDepth 100000 in
theorem cw29 : aWd 29 ∈ lw_tbl := List.mem_of_getElem? (i := 567) rfl
set_option maxRecDepth 100000 in
theorem cw30 : aWd 30 ∈ lw_tbl := List.mem_of_getElem? (i := 560) rfl
set_option maxRecDepth 100000 in
theorem cw31 : aWd 31 ∈ lw_tbl := List.mem_of_getElem? (i := 587) rfl
set_option maxRecDepth 100000 in
theorem cw32 : aWd 32 ∈ lw_tbl := List.mem_of_getElem? (i := 602) rfl
set_option maxRecDepth 100000 in
theorem cw33 : aWd 33 ∈ lw_tbl := List.mem_of_getElem? (i := 598) rfl
set_option maxRecDepth 100000 in
theorem cw34 : aWd 34 ∈ lw_tbl := List.mem_of_getElem? (i := 594) rfl
set_option maxRecDepth 100000 in
theorem cw35 : aWd 35 ∈ lw_tbl := List.mem_of_getElem? (i := 624) rfl
set_option maxRecDepth 100000 in
theorem cw36 : aWd 36 ∈ lw_tbl := List.mem_of_getElem? (i := 628) rfl
set_option maxRecDepth 100000 in
theorem cw37 : aWd 37 ∈ lw_tbl := List.mem_of_getElem? (i := 556) rfl
set_option maxRecDepth 100000 in
theorem cw38 : aWd 38 ∈ lw_tbl := List.mem_of_getElem? (i := 550) rfl
set_option maxRecDepth 100000 in
theorem cw39 : aWd 39 ∈ lw_tbl := List.mem_of_getElem? (i := 2011) rfl
set_option maxRecDepth 100000 in
theorem cw40 : aWd 40 ∈ lw_tbl := List.mem_of_getElem? (i := 2018) rfl
set_option maxRecDepth 100000 in
theorem cw41 : aWd 41 ∈ lw_tbl := List.mem_of_getElem? (i := 2007) rfl
set_option maxRecDepth 100000 in
theorem cw42 : aWd 42 ∈ lw_tbl := List.mem_of_getElem? (i := 640) rfl
set_option maxRecDepth 100000 in
theorem cw43 : aWd 43 ∈ lw_tbl := List.mem_of_getElem? (i := 645) rfl
set_option maxRecDepth 100000 in
theorem cw44 : aWd 44 ∈ lw_tbl := List.mem_of_getElem? (i := 636) rfl
set_option maxRecDepth 100000 in
theorem cw45 : aWd 45 ∈ lw_tbl := List.mem_of_getElem? (i := 632) rfl
set_option maxRecDepth 100000 in
theorem cw46 : aWd 46 ∈ lw_tbl := List.mem_of_getElem? (i := 2026) rfl
set_option maxRecDepth 100000 in
theorem cw47 : aWd 47 ∈ lw_tbl := List.mem_of_getElem? (i := 2022) rfl
set_option maxRecDepth 100000 in
theorem cw48 : aWd 48 ∈ lw_tbl := List.mem_of_getElem? (i := 664) rfl
set_option maxRecDepth 100000 in
theorem cw49 : aWd 49 ∈ lw_tbl := List.mem_of_getElem? (i := 661) rfl
set_option maxRecDepth 100000 in
theorem cw50 : aWd 50 ∈ lw_tbl := List.mem_of_getElem? (i := 657) rfl
set_option maxRecDepth 100000 in
theorem cw51 : aWd 51 ∈ lw_tbl := List.mem_of_getElem? (i := 652) rfl
set_option maxRecDepth 100000 in
theorem cw52 : aWd 52 ∈ lw_tbl := List.mem_of_getElem? (i := 648) rfl
set_option maxRecDepth 100000 in
theorem cw53 : aWd 53 ∈ lw_tbl := List.mem_of_getElem? (i := 2034) rfl
set_option maxRecDepth 100000 in
theorem cw54 : aWd 54 ∈ lw_tbl := List.mem_of_getElem? (i := 2030) rfl
set_option maxRecDepth 100000 in
theorem cw55 : aWd 55 ∈ lw_tbl := List.mem_of_getElem? (i := 673) rfl
set_option maxRecDepth 100000 in
theorem cw56 : aWd 56 ∈ lw_tbl := List.mem_of_getElem? (i := 669) rfl
set_option maxRecDepth 100000 in
theorem cw57 : aWd 57 ∈ lw_tbl := List.mem_of_getElem? (i := 2039) rfl
set_option maxRecDepth 100000 in
theorem cw58 : aWd 58 ∈ lw_tbl := List.mem_of_getElem? (i := 685) rfl
set_option maxRecDepth 100000 in
theorem cw59 : aWd 59 ∈ lw_tbl := List.mem_of_getElem? (i := 680) rfl
set_option maxRecDepth 100000 in
theorem cw60 : aWd 60 ∈ lw_tbl := List.mem_of_getElem? (i := 676) rfl
set_option maxRecDepth 100000 in
theorem cw61 : aWd 61 ∈ lw_tbl := List.mem_of_getElem? (i := 2043) rfl
set_option maxRecDepth 100000 in
theorem cw62 : aWd 62 ∈ lw_tbl := List.mem_of_getElem? (i := 692) rfl
set_option maxRecDepth 100000 in
theorem cw63 : aWd 63 ∈ lw_tbl := List.mem_of_getElem? (i := 688) rfl
set_option maxRecDepth 100000 in
theorem cw64 : aWd 64 ∈ lw_tbl := List.mem_of_getElem? (i := 2047) rfl
set_option maxRecDepth 100000 in
theorem cw65 : aWd 65 ∈ lw_tbl := List.mem_of_getElem? (i := 704) rfl
set_option maxRecDepth 100000 in
theorem cw66 : aWd 66 ∈ lw_tbl := List.mem_of_getElem? (i := 723) rfl
set_option maxRecDepth 100000 in
theorem cw67 : aWd 67 ∈ lw_tbl := List.mem_of_getElem? (i := 727) rfl
set_option maxRecDepth 100000 in
theorem cw68 : aWd 68 ∈ lw_tbl := List.mem_of_getElem? (i := 731) rfl
set_option maxRecDepth 100000 in
theorem cw69 : aWd 69 ∈ lw_tbl := List.mem_of_getElem? (i := 735) rfl
set_option maxRecDepth 100000 in
theorem cw70 : aWd 70 ∈ lw_tbl := List.mem_of_getElem? (i := 739) rfl
set_option maxRecDepth 100000 in
theorem cw71 : aWd 71 ∈ lw_tbl := List.mem_of_getElem? (i := 719) rfl
set_option maxRecDepth 100000 in
theorem cw72 : aWd 72 ∈ lw_tbl := List.mem_of_getElem? (i := 715) rfl
set_option maxRecDepth 100000 in
theorem cw73 : aWd 73 ∈ lw_tbl := List.mem_of_getElem? (i := 752) rfl
set_option maxRecDepth 100000 in
theorem cw74 : aWd 74 ∈ lw_tbl := List.mem_of_getElem? (i := 747) rfl
set_option maxRecDepth 100000 in
theorem cw75 : aWd 75 ∈ lw_tbl := List.mem_of_getElem? (i := 759) rfl
set_option maxRecDepth 100000 in
theorem cw76 : aWd 76 ∈ lw_tbl := List.mem_of_getElem? (i := 764) rfl
set_option maxRecDepth 100000 in
theorem cw77 : aWd 77 ∈ lw_tbl := List.mem_of_getElem? (i := 772) rfl
set_option maxRecDepth 100000 in
theorem cw78 : aWd 78 ∈ lw_tbl := List.mem_of_getElem? (i := 780) rfl
set_option maxRecDepth 100000 in
theorem cw79 : aWd 79 ∈ lw_tbl := List.mem_of_getElem? (i := 768) rfl
set_option maxRecDepth 100000 in
theorem cw80 : aWd 80 ∈ lw_tbl := List.mem_of_getElem? (i := 788) rfl
set_option maxRecDepth 100000 in
theorem cw81 : aWd 81 ∈ lw_tbl := List.mem_of_getElem? (i := 792) rfl
set_option maxRecDepth 100000 in
theorem cw82 : aWd 82 ∈ lw_tbl := List.mem_of_getElem? (i := 784) rfl
set_option maxRecDepth 100000 in
theorem cw83 : aWd 83 ∈ lw_tbl := List.mem_of_getElem? (i := 804) rfl
set_option maxRecDepth 100000 in
theorem cw84 : aWd 84 ∈ lw_tbl := List.mem_of_getElem? (i := 800) rfl
set_option maxRecDepth 100000 in
theorem cw85 : aWd 85 ∈ lw_tbl := List.mem_of_getElem? (i := 796) rfl
set_option maxRecDepth 100000 in
theorem cw86 : aWd 86 ∈ lw_tbl := List.mem_of_getElem? (i := 808) rfl
set_option maxRecDepth 100000 in
theorem cw87 : aWd 87 ∈ lw_tbl := List.mem_of_getElem? (i := 812) rfl
set_option maxRecDepth 100000 in
theorem cw88 : aWd 88 ∈ lw_tbl := List.mem_of_getElem? (i := 816) rfl
set_option maxRecDepth 100000 in
theorem cw89 : aWd 89 ∈ lw_tbl := List.mem_of_getElem? (i := 743) rfl
set_option maxRecDepth 100000 in
theorem cw90 : aWd 90 ∈ lw_tbl := List.mem_of_getElem? (i := 711) rfl
set_option maxRecDepth 100000 in
theorem cw91 : aWd 91 ∈ lw_tbl := List.mem_of_getElem? (i := 840) rfl
set_option maxRecDepth 100000 in
theorem cw92 : aWd 92 ∈ lw_tbl := List.mem_of_getElem? (i := 835) rfl
set_option maxRecDepth 100000 in
theorem cw93 : aWd 93 ∈ lw_tbl := List.mem_of_getElem? (i := 868) rfl
set_option maxRecDepth 100000 in
theorem cw94 : aWd 94 ∈ lw_tbl := List.mem_of_getElem? (i := 843) rfl
set_option maxRecDepth 100000 in
theorem cw95 : aWd 95 ∈ lw_tbl := List.mem_of_getElem? (i := 832) rfl
set_option maxRecDepth 100000 in
theorem cw96 : aWd 96 ∈ lw_tbl := List.mem_of_getElem? (i := 828) rfl
set_option maxRecDepth 100000 in
theorem cw97 : aWd 97 ∈ lw_tbl := List.mem_of_getElem? (i := 824) rfl
set_option maxRecDepth 100000 in
theorem cw98 : aWd 98 ∈ lw_tbl := List.mem_of_getElem? (i := 820) rfl
set_option maxRecDepth 100000 in
theorem cw99 : aWd 99 ∈ lw_tbl := List.mem_of_getElem? (i := 700) rfl
set_option maxRecDepth 100000 in
theorem cw100 : aWd 100 ∈ lw_tbl := List.mem_of_getElem? (i := 696) rfl
set_option maxRecDepth 100000 in
theorem cw101 : aWd 101 ∈ lw_tbl := List.mem_of_getElem? (i := 2059) rfl
set_option maxRecDepth 100000 in
theorem cw102 : aWd 102 ∈ lw_tbl := List.mem_of_getElem? (i := 2064) rfl
set_option maxRecDepth 100000 in
theorem cw103 : aWd 103 ∈ lw_tbl := List.mem_of_getElem? (i := 2070) rfl
set_option maxRecDepth 100000 in
theorem cw104 : aWd 104 ∈ lw_tbl := List.mem_of_getElem? (i := 2055) rfl
set_option maxRecDepth 100000 in
theorem cw105 : aWd 105 ∈ lw_tbl := List.mem_of_getElem? (i := 2081) rfl
set_option maxRecDepth 100000 in
theorem cw106 : aWd 106 ∈ lw_tbl := List.mem_of_getElem? (i := 2089) rfl
set_option maxRecDepth 100000 in
theorem cw107 : aWd 107 ∈ lw_tbl := List.mem_of_getElem? (i := 2097) rfl
set_option maxRecDepth 100000 in
theorem cw108 : aWd 108 ∈ lw_tbl := List.mem_of_getElem? (i := 2093) rfl
set_option maxRecDepth 100000 in
theorem cw109 : aWd 109 ∈ lw_tbl := List.mem_of_getElem? (i := 2109) rfl
set_option maxRecDepth 100000 in
theorem cw110 : aWd 110 ∈ lw_tbl := List.mem_of_getElem? (i := 2113) rfl
set_option maxRecDepth 100000 in
theorem cw111 : aWd 111 ∈ lw_tbl := List.mem_of_getElem? (i := 2105) rfl
set_option maxRecDepth 100000 in
theorem cw112 : aWd 112 ∈ lw_tbl := List.mem_of_getElem? (i := 2101) rfl
set_option maxRecDepth 100000 in
theorem cw113 : aWd 113 ∈ lw_tbl := List.mem_of_getElem? (i := 2117) rfl
set_option maxRecDepth 100000 in
theorem cw114 : aWd 114 ∈ lw_tbl := List.mem_of_getElem? (i := 2074) rfl
set_option maxRecDepth 100000 in
theorem cw115 : aWd 115 ∈ lw_tbl := List.mem_of_getElem? (i := 2051) rfl
set_option maxRecDepth 100000 in
theorem cw116 : aWd 116 ∈ lw_tbl := List.mem_of_getElem? (i := 894) rfl
set_option maxRecDepth 100000 in
theorem cw117 : aWd 117 ∈ lw_tbl := List.mem_of_getElem? (i := 891) rfl
set_option maxRecDepth 100000 in
theorem cw118 : aWd 118 ∈ lw_tbl := List.mem_of_getElem? (i := 898) rfl
set_option maxRecDepth 100000 in
theorem cw119 : aWd 119 ∈ lw_tbl := List.mem_of_getElem? (i := 888) rfl
set_option maxRecDepth 100000 in
theorem cw120 : aWd 120 ∈ lw_tbl := List.mem_of_getElem? (i := 884) rfl
set_option maxRecDepth 100000 in
theorem cw121 : aWd 121 ∈ lw_tbl := List.mem_of_getElem? (i := 902) rfl
set_option maxRecDepth 100000 in
theorem cw122 : aWd 122 ∈ lw_tbl := List.mem_of_getElem? (i := 880) rfl
set_option maxRecDepth 100000 in
theorem cw123 : aWd 123 ∈ lw_tbl := List.mem_of_getElem? (i := 876) rfl
set_option maxRecDepth 100000 in
theorem cw124 : aWd 124 ∈ lw_tbl := List.mem_of_getElem? (i := 2129) rfl
set_option maxRecDepth 100000 in
theorem cw125 : aWd 125 ∈ lw_tbl := List.mem_of_getElem? (i := 2125) rfl
set_option maxRecDepth 100000 in
theorem cw126 : aWd 126 ∈ lw_tbl := List.mem_of_getElem? (i := 2121) rfl
set_option maxRecDepth 100000 in
theorem cw127 : aWd 127 ∈ lw_tbl := List.mem_of_getElem? (i := 917) rfl
set_option maxRecDepth 100000 in
theorem cw128 : aWd 128 ∈ lw_tbl := List.mem_of_getElem? (i := 921) rfl
set_option maxRecDepth 100000 in
theorem cw129 : aWd 129 ∈ lw_tbl := List.mem_of_getElem? (i := 992) rfl
set_option maxRecDepth 100000 in
theorem cw130 : aWd 130 ∈ lw_tbl := List.mem_of_getElem? (i := 999) rfl
set_option maxRecDepth 100000 in
theorem cw131 : aWd 131 ∈ lw_tbl := List.mem_of_getElem? (i := 1003) rfl
set_option maxRecDepth 100000 in
theorem cw132 : aWd 132 ∈ lw_tbl := List.mem_of_getElem? (i := 988) rfl
set_option maxRecDepth 100000 in
theorem cw133 : aWd 133 ∈ lw_tbl := List.mem_of_getElem? (i := 984) rfl
set_option maxRecDepth 100000 in
theorem cw134 : aWd 134 ∈ lw_tbl := List.mem_of_getElem? (i := 980) rfl
set_option maxRecDepth 100000 in
theorem cw135 : aWd 135 ∈ lw_tbl := List.mem_of_getElem? (i := 1009) rfl
set_option maxRecDepth 100000 in
theorem cw136 : aWd 136 ∈ lw_tbl := List.mem_of_getElem? (i := 976) rfl
set_option maxRecDepth 100000 in
theorem cw137 : aWd 137 ∈ lw_tbl := List.mem_of_getElem? (i := 910) rfl
set_option maxRecDepth 100000 in
theorem cw138 : aWd 138 ∈ lw_tbl := List.mem_of_getElem? (i := 906) rfl
set_option maxRecDepth 100000 in
theorem cw139 : aWd 139 ∈ lw_tbl := List.mem_of_getElem? (i := 2134) rfl
set_option maxRecDepth 100000 in
theorem cw140 : aWd 140 ∈ lw_tbl := List.mem_of_getElem? (i := 1020) rfl
set_option maxRecDepth 100000 in
theorem cw141 : aWd 141 ∈ lw_tbl := List.mem_of_getElem? (i := 1028) rfl
set_option maxRecDepth 100000 in
theorem cw142 : aWd 142 ∈ lw_tbl := List.mem_of_getElem? (i := 1024) rfl
set_option maxRecDepth 100000 in
theorem cw143 : aWd 143 ∈ lw_tbl := List.mem_of_getElem? (i := 1016) rfl
set_option maxRecDepth 100000 in
theorem cw144 : aWd 144 ∈ lw_tbl := List.mem_of_getElem? (i := 1012) rfl
set_option maxRecDepth 100000 in
theorem cw145 : aWd 145 ∈ lw_tbl := List.mem_of_getElem? (i := 2142) rfl
set_option maxRecDepth 100000 in
theorem cw146 : aWd 146 ∈ lw_tbl := List.mem_of_getElem? (i := 2158) rfl
set_option maxRecDepth 100000 in
theorem cw147 : aWd 147 ∈ lw_tbl := List.mem_of_getElem? (i := 2154) rfl
set_option maxRecDepth 100000 in
theorem cw148 : aWd 148 ∈ lw_tbl := List.mem_of_getElem? (i := 2150) rfl
set_option maxRecDepth 100000 in
theorem cw149 : aWd 149 ∈ lw_tbl := List.mem_of_getElem? (i := 2146) rfl
set_option maxRecDepth 100000 in
theorem cw150 : aWd 150 ∈ lw_tbl := List.mem_of_getElem? (i := 2138) rfl
set_option maxRecDepth 100000 in
theorem cw151 : aWd 151 ∈ lw_tbl := List.mem_of_getElem? (i := 1051) rfl
set_option maxRecDepth 100000 in
theorem cw152 : aWd 152 ∈ lw_tbl := List.mem_of_getElem? (i := 1054) rfl
set_option maxRecDepth 100000 in
theorem cw153 : aWd 153 ∈ lw_tbl := List.mem_of_getElem? (i := 1047) rfl
set_option maxRecDepth 100000 in
theorem cw154 : aWd 154 ∈ lw_tbl := List.mem_of_getElem? (i := 1059) rfl
set_option maxRecDepth 100000 in
theorem cw155 : aWd 155 ∈ lw_tbl := List.mem_of_getElem? (i := 1041) rfl
set_option maxRecDepth 100000 in
theorem cw156 : aWd 156 ∈ lw_tbl := List.mem_of_getElem? (i := 1035) rfl
set_option maxRecDepth 100000 in
theorem cw157 : aWd 157 ∈ lw_tbl := List.mem_of_getElem? (i := 1031) rfl
set_option maxRecDepth 100000 in
theorem cw158 : aWd 158 ∈ lw_tbl := List.mem_of_getElem? (i := 2166) rfl
set_option maxRecDepth 100000 in
theorem cw159 : aWd 159 ∈ lw_tbl := List.mem_of_getElem? (i := 2170) rfl
set_option maxRecDepth 100000 in
theorem cw160 : aWd 160 ∈ lw_tbl := List.mem_of_getElem? (i := 2162) rfl
set_option maxRecDepth 100000 in
theorem cw161 : aWd 161 ∈ lw_tbl := List.mem_of_getElem? (i := 1071) rfl
set_option maxRecDepth 100000 in
theorem cw162 : aWd 162 ∈ lw_tbl := List.mem_of_getElem? (i := 1066) rfl
set_option maxRecDepth 100000 in
theorem cw163 : aWd 163 ∈ lw_tbl := List.mem_of_getElem? (i := 1062) rfl
set_option maxRecDepth 100000 in
theorem cw164 : aWd 164 ∈ lw_tbl := List.mem_of_getElem? (i := 2174) rfl
set_option maxRecDepth 100000 in
theorem cw165 : aWd 165 ∈ lw_tbl := List.mem_of_getElem? (i := 1078) rfl
set_option maxRecDepth 100000 in
theorem cw166 : aWd 166 ∈ lw_tbl := List.mem_of_getElem? (i := 1074) rfl
set_option maxRecDepth 100000 in
theorem cw167 : aWd 167 ∈ lw_tbl := List.mem_of_getElem? (i := 2178) rfl
set_option maxRecDepth 100000 in
theorem cw168 : aWd 168 ∈ lw_tbl := List.mem_of_getElem? (i := 1091) rfl
set_option maxRecDepth 100000 in
theorem cw169 : aWd 169 ∈ lw_tbl := List.mem_of_getElem? (i := 1085) rfl
set_option maxRecDepth 100000 in
theorem cw170 : aWd 170 ∈ lw_tbl := List.mem_of_getElem? (i := 1081) rfl
set_option maxRecDepth 100000 in
theorem cw171 : aWd 171 ∈ lw_tbl := List.mem_of_getElem? (i := 2182) rfl
set_option maxRecDepth 100000 in
theorem cw172 : aWd 172 ∈ lw_tbl := List.mem_of_getElem? (i := 1127) rfl
set_option maxRecDepth 100000 in
theorem cw173 : aWd 173 ∈ lw_tbl := List.mem_of_getElem? (i := 1123) rfl
set_option maxRecDepth 100000 in
theorem cw174 : aWd 174 ∈ lw_tbl := List.mem_of_getElem? (i := 1119) rfl
set_option maxRecDepth 100000 in
theorem cw175 : aWd 175 ∈ lw_tbl := List.mem_of_getElem? (i := 2194) rfl
set_option maxRecDepth 100000 in
theorem cw176 : aWd 176 ∈ lw_tbl := List.mem_of_getElem? (i := 2190) rfl
set_option maxRecDepth 100000 in
theorem cw177 : aWd 177 ∈ lw_tbl := List.mem_of_getElem? (i := 2186) rfl
set_option maxRecDepth 100000 in
theorem cw178 : aWd 178 ∈ lw_tbl := List.mem_of_getElem? (i := 1134) rfl
set_option maxRecDepth 100000 in
theorem cw179 : aWd 179 ∈ lw_tbl := List.mem_of_getElem? (i := 1130) rfl
set_option maxRecDepth 100000 in
theorem cw180 : aWd 180 ∈ lw_tbl := List.mem_of_getElem? (i := 2198) rfl
set_option maxRecDepth 100000 in
theorem cw181 : aWd 181 ∈ lw_tbl := List.mem_of_getElem? (i := 1145) rfl
set_option maxRecDepth 100000 in
theorem cw182 : aWd 182 ∈ lw_tbl := List.mem_of_getElem? (i := 1149) rfl
set_option maxRecDepth 100000 in
theorem cw183 : aWd 183 ∈ lw_tbl := List.mem_of_getElem? (i := 1159) rfl
set_option maxRecDepth 100000 in
theorem cw184 : aWd 184 ∈ lw_tbl := List.mem_of_getElem? (i := 1141) rfl
set_option maxRecDepth 100000 in
theorem cw185 : aWd 185 ∈ lw_tbl := List.mem_of_getElem? (i := 1137) rfl
set_option maxRecDepth 100000 in
theorem cw186 : aWd 186 ∈ lw_tbl := List.mem_of_getElem? (i := 2206) rfl
set_option maxRecDepth 100000 in
theorem cw187 : aWd 187 ∈ lw_tbl := List.mem_of_getElem? (i := 2202) rfl
set_option maxRecDepth 100000 in
theorem cw188 : aWd 188 ∈ lw_tbl := List.mem_of_getElem? (i := 1168) rfl
set_option maxRecDepth 100000 in
theorem cw189 : aWd 189 ∈ lw_tbl := List.mem_of_getElem? (i := 1164) rfl
set_option maxRecDepth 100000 in
theorem cw190 : aWd 190 ∈ lw_tbl := List.mem_of_getElem? (i := 2212) rfl
set_option maxRecDepth 100000 in
theorem cw191 : aWd 191 ∈ lw_tbl := List.mem_of_getElem? (i := 1191) rfl
set_option maxRecDepth 100000 in
theorem cw192 : aWd 192 ∈ lw_tbl := List.mem_of_getElem? (i := 1186) rfl
set_option maxRecDepth 100000 in
theorem cw193 : aWd 193 ∈ lw_tbl := List.mem_of_getElem? (i := 1181) rfl
set_option maxRecDepth 100000 in
theorem cw194 : aWd 194 ∈ lw_tbl := List.mem_of_getElem? (i := 1195) rfl
set_option maxRecDepth 100000 in
theorem cw195 : aWd 195 ∈ lw_tbl := List.mem_of_getElem? (i := 1176) rfl
set_option maxRecDepth 100000 in
theorem cw196 : aWd 196 ∈ lw_tbl := List.mem_of_getElem? (i := 1172) rfl
set_option maxRecDepth 100000 in
theorem cw197 : aWd 197 ∈ lw_tbl := List.mem_of_getElem? (i := 2221) rfl
set_option maxRecDepth 100000 in
theorem cw198 : aWd 198 ∈ lw_tbl := List.mem_of_getElem? (i := 2217) rfl
set_option maxRecDepth 100000 in
theorem cw199 : aWd 199 ∈ lw_tbl := List.mem_of_getElem? (i := 1215) rfl
set_option maxRecDepth 100000 in
theorem cw200 : aWd 200 ∈ lw_tbl := List.mem_of_getElem? (i := 1219) rfl
set_option maxRecDepth 100000 in
theorem cw201 : aWd 201 ∈ lw_tbl := List.mem_of_getElem? (i := 1212) rfl
set_option maxRecDepth 100000 in
theorem cw202 : aWd 202 ∈ lw_tbl := List.mem_of_getElem? (i := 1233) rfl
set_option maxRecDepth 100000 in
theorem cw203 : aWd 203 ∈ lw_tbl := List.mem_of_getElem? (i := 1229) rfl
set_option maxRecDepth 100000 in
theorem cw204 : aWd 204 ∈ lw_tbl := List.mem_of_getElem? (i := 1238) rfl
set_option maxRecDepth 100000 in
theorem cw205 : aWd 205 ∈ lw_tbl := List.mem_of_getElem? (i := 1226) rfl
set_option maxRecDepth 100000 in
theorem cw206 : aWd 206 ∈ lw_tbl := List.mem_of_getElem? (i := 1206) rfl
set_option maxRecDepth 100000 in
theorem cw207 : aWd 207 ∈ lw_tbl := List.mem_of_getElem? (i := 1202) rfl
set_option maxRecDepth 100000 in
theorem cw208 : aWd 208 ∈ lw_tbl := List.mem_of_getElem? (i := 1198) rfl
set_option maxRecDepth 100000 in
theorem cw209 : aWd 209 ∈ lw_tbl := List.mem_of_getElem? (i := 2237) rfl
set_option maxRecDepth 100000 in
theorem cw210 : aWd 210 ∈ lw_tbl := List.mem_of_getElem? (i := 2233) rfl
set_option maxRecDepth 100000 in
theorem cw211 : aWd 211 ∈ lw_tbl := List.mem_of_getElem? (i := 2229) rfl
set_option maxRecDepth 100000 in
theorem cw212 : aWd 212 ∈ lw_tbl := List.mem_of_getElem? (i := 2225) rfl
set_option maxRecDepth 100000 in
theorem cw213 : aWd 213 ∈ lw_tbl := List.mem_of_getElem? (i := 1262) rfl
set_option maxRecDepth 100000 in
theorem cw214 : aWd 214 ∈ lw_tbl := List.mem_of_getElem? (i := 1258) rfl
set_option maxRecDepth 100000 in
theorem cw215 : aWd 215 ∈ lw_tbl := List.mem_of_getElem? (i := 1271) rfl
set_option maxRecDepth 100000 in
theorem cw216 : aWd 216 ∈ lw_tbl := List.mem_of_getElem? (i := 1268) rfl
set_option maxRecDepth 100000 in
theorem cw217 : aWd 217 ∈ lw_tbl := List.mem_of_getElem? (i := 1251) rfl
set_option maxRecDepth 100000 in
theorem cw218 : aWd 218 ∈ lw_tbl := List.mem_of_getElem? (i := 1275) rfl
set_option maxRecDepth 100000 in
theorem cw219 : aWd 219 ∈ lw_tbl := List.mem_of_getElem? (i := 1281) rfl
set_option maxRecDepth 100000 in
theorem cw220 : aWd 220 ∈ lw_tbl := List.mem_of_getElem? (i := 1284) rfl
set_option maxRecDepth 100000 in
theorem cw221 : aWd 221 ∈ lw_tbl := List.mem_of_getElem? (i := 1245) rfl
set_option maxRecDepth 100000 in
theorem cw222 : aWd 222 ∈ lw_tbl := List.mem_of_getElem? (i := 1241) rfl
set_option maxRecDepth 100000 in
theorem cw223 : aWd 223 ∈ lw_tbl := List.mem_of_getElem? (i := 2249) rfl
set_option maxRecDepth 100000 in
theorem cw224 : aWd 224 ∈ lw_tbl := List.mem_of_getElem? (i := 2245) rfl
set_option maxRecDepth 100000 in
theorem cw225 : aWd 225 ∈ lw_tbl := List.mem_of_getElem? (i := 2253) rfl
set_option maxRecDepth 100000 in
theorem cw226 : aWd 226 ∈ lw_tbl := List.mem_of_getElem? (i := 2257) rfl
set_option maxRecDepth 100000 in
theorem cw227 : aWd 227 ∈ lw_tbl := List.mem_of_getElem? (i := 2241) rfl
set_option maxRecDepth 100000 in
theorem cw228 : aWd 228 ∈ lw_tbl := List.mem_of_getElem? (i := 1298) rfl
set_option maxRecDepth 100000 in
theorem cw229 : aWd 229 ∈ lw_tbl := List.mem_of_getElem? (i := 1306) rfl
set_option maxRecDepth 100000 in
theorem cw230 : aWd 230 ∈ lw_tbl := List.mem_of_getElem? (i := 1327) rfl
set_option maxRecDepth 100000 in
theorem cw231 : aWd 231 ∈ lw_tbl := List.mem_of_getElem? (i := 1333) rfl
set_option maxRecDepth 100000 in
theorem cw232 : aWd 232 ∈ lw_tbl := List.mem_of_getElem? (i := 1341) rfl
set_option maxRecDepth 100000 in
theorem cw233 : aWd 233 ∈ lw_tbl := List.mem_of_getElem? (i := 1337) rfl
set_option maxRecDepth 100000 in
theorem cw234 : aWd 234 ∈ lw_tbl := List.mem_of_getElem? (i := 1348) rfl
set_option maxRecDepth 100000 in
theorem cw235 : aWd 235 ∈ lw_tbl := List.mem_of_getElem? (i := 1323) rfl
set_option maxRecDepth 100000 in
theorem cw236 : aWd 236 ∈ lw_tbl := List.mem_of_getElem? (i := 1294) rfl
set_option maxRecDepth 100000 in
theorem cw237 : aWd 237 ∈ lw_tbl := List.mem_of_getElem? (i := 1290) rfl
set_option maxRecDepth 100000 in
theorem cw238 : aWd 238 ∈ lw_tbl := List.mem_of_getElem? (i := 2265) rfl
set_option maxRecDepth 100000 in
theorem cw239 : aWd 239 ∈ lw_tbl := List.mem_of_getElem? (i := 2272) rfl
set_option maxRecDepth 100000 in
theorem cw240 : aWd 240 ∈ lw_tbl := List.mem_of_getElem? (i := 2269) rfl
set_option maxRecDepth 100000 in
theorem cw241 : aWd 241 ∈ lw_tbl := List.mem_of_getElem? (i := 2261) rfl
set_option maxRecDepth 100000 in
theorem cw242 : aWd 242 ∈ lw_tbl := List.mem_of_getElem? (i := 1360) rfl
set_option maxRecDepth 100000 in
theorem cw243 : aWd 243 ∈ lw_tbl := List.mem_of_getElem? (i := 1365) rfl
set_option maxRecDepth 100000 in
theorem cw244 : aWd 244 ∈ lw_tbl := List.mem_of_getElem? (i := 1356) rfl
set_option maxRecDepth 100000 in
theorem cw245 : aWd 245 ∈ lw_tbl := List.mem_of_getElem? (i := 1352) rfl
set_option maxRecDepth 100000 in
theorem cw246 : aWd 246 ∈ lw_tbl := List.mem_of_getElem? (i := 2283) rfl
set_option maxRecDepth 100000 in
theorem cw247 : aWd 247 ∈ lw_tbl := List.mem_of_getElem? (i := 2279) rfl
set_option maxRecDepth 100000 in
theorem cw248 : aWd 248 ∈ lw_tbl := List.mem_of_getElem? (i := 1376) rfl
set_option maxRecDepth 100000 in
theorem cw249 : aWd 249 ∈ lw_tbl := List.mem_of_getElem? (i := 1380) rfl
set_option maxRecDepth 100000 in
theorem cw250 : aWd 250 ∈ lw_tbl := List.mem_of_getElem? (i := 1372) rfl
set_option maxRecDepth 100000 in
theorem cw251 : aWd 251 ∈ lw_tbl := List.mem_of_getElem? (i := 1368) rfl
set_option maxRecDepth 100000 in
theorem cw252 : aWd 252 ∈ lw_tbl := List.mem_of_getElem? (i := 2290) rfl
set_option maxRecDepth 100000 in
theorem cw253 : aWd 253 ∈ lw_tbl := List.mem_of_getElem? (i := 2287) rfl
set_option maxRecDepth 100000 in
theorem cw254 : aWd 254 ∈ lw_tbl := List.mem_of_getElem? (i := 1391) rfl
set_option maxRecDepth 100000 in
theorem cw255 : aWd 255 ∈ lw_tbl := List.mem_of_getElem? (i := 1387) rfl
set_option maxRecDepth 100000 in
theorem cw256 : aWd 256 ∈ lw_tbl := List.mem_of_getElem? (i := 1383) rfl
set_option maxRecDepth 100000 in
theorem cw257 : aWd 257 ∈ lw_tbl := List.mem_of_getElem? (i := 2294) rfl
set_option maxRecDepth 100000 in
theorem cw258 : aWd 258 ∈ lw_tbl := List.mem_of_getElem? (i := 1403) rfl
set_option maxRecDepth 100000 in
theorem cw259 : aWd 259 ∈ lw_tbl := List.mem_of_getElem? (i := 1408) rfl
set_option maxRecDepth 100000 in
theorem cw260 : aWd 260 ∈ lw_tbl := List.mem_of_getElem? (i := 1415) rfl
set_option maxRecDepth 100000 in
theorem cw261 : aWd 261 ∈ lw_tbl := List.mem_of_getElem? (i := 1484) rfl
set_option maxRecDepth 100000 in
theorem cw262 : aWd 262 ∈ lw_tbl := List.mem_of_getElem? (i := 1488) rfl
set_option maxRecDepth 100000 in
theorem cw263 : aWd 263 ∈ lw_tbl := List.mem_of_getElem? (i := 1494) rfl
set_option maxRecDepth 100000 in
theorem cw264 : aWd 264 ∈ lw_tbl := List.mem_of_getElem? (i := 1398) rfl
set_option maxRecDepth 100000 in
theorem cw265 : aWd 265 ∈ lw_tbl := List.mem_of_getElem? (i := 1394) rfl
set_option maxRecDepth 100000 in
theorem cw266 : aWd 266 ∈ lw_tbl := List.mem_of_getElem? (i := 2298) rfl
set_option maxRecDepth 100000 in
theorem cw267 : aWd 267 ∈ lw_tbl := List.mem_of_getElem? (i := 1507) rfl
set_option maxRecDepth 100000 in
theorem cw268 : aWd 268 ∈ lw_tbl := List.mem_of_getElem? (i := 1511) rfl
set_option maxRecDepth 100000 in
theorem cw269 : aWd 269 ∈ lw_tbl := List.mem_of_getElem? (i := 1519) rfl
set_option maxRecDepth 100000 in
theorem cw270 : aWd 270 ∈ lw_tbl := List.mem_of_getElem? (i := 1515) rfl
set_option maxRecDepth 100000 in
theorem cw271 : aWd 271 ∈ lw_tbl := List.mem_of_getElem? (i := 1523) rfl
set_option maxRecDepth 100000 in
theorem cw272 : aWd 272 ∈ lw_tbl := List.mem_of_getElem? (i := 1503) rfl
set_option maxRecDepth 100000 in
theorem cw273 : aWd 273 ∈ lw_tbl := List.mem_of_getElem? (i := 1499) rfl
set_option maxRecDepth 100000 in
theorem cw274 : aWd 274 ∈ lw_tbl := List.mem_of_getElem? (i := 2306) rfl
set_option maxRecDepth 100000 in
theorem cw275 : aWd 275 ∈ lw_tbl := List.mem_of_getElem? (i := 2310) rfl
set_option maxRecDepth 100000 in
theorem cw276 : aWd 276 ∈ lw_tbl := List.mem_of_getElem? (i := 2302) rfl
set_option maxRecDepth 100000 in
theorem cw277 : aWd 277 ∈ lw_tbl := List.mem_of_getElem? (i := 1549) rfl
set_option maxRecDepth 100000 in
theorem cw278 : aWd 278 ∈ lw_tbl := List.mem_of_getElem? (i := 1553) rfl
set_option maxRecDepth 100000 in
theorem cw279 : aWd 279 ∈ lw_tbl := List.mem_of_getElem? (i := 1545) rfl
set_option maxRecDepth 100000 in
theorem cw280 : aWd 280 ∈ lw_tbl := List.mem_of_getElem? (i := 1557) rfl
set_option maxRecDepth 100000 in
theorem cw281 : aWd 281 ∈ lw_tbl := List.mem_of_getElem? (i := 1541) rfl
set_option maxRecDepth 100000 in
theorem cw282 : aWd 282 ∈ lw_tbl := List.mem_of_getElem? (i := 1561) rfl
set_option maxRecDepth 100000 in
theorem cw283 : aWd 283 ∈ lw_tbl := List.mem_of_getElem? (i := 1535) rfl
set_option maxRecDepth 100000 in
theorem cw284 : aWd 284 ∈ lw_tbl := List.mem_of_getElem? (i := 1530) rfl
set_option maxRecDepth 100000 in
theorem cw285 : aWd 285 ∈ lw_tbl := List.mem_of_getElem? (i := 1526) rfl
set_option maxRecDepth 100000 in
theorem cw286 : aWd 286 ∈ lw_tbl := List.mem_of_getElem? (i := 2323) rfl
set_option maxRecDepth 100000 in
theorem cw287 : aWd 287 ∈ lw_tbl := List.mem_of_getElem? (i := 2319) rfl
set_option maxRecDepth 100000 in
theorem cw288 : aWd 288 ∈ lw_tbl := List.mem_of_getElem? (i := 2314) rfl
set_option maxRecDepth 100000 in
theorem cw289 : aWd 289 ∈ lw_tbl := List.mem_of_getElem? (i := 1574) rfl
set_option maxRecDepth 100000 in
theorem cw290 : aWd 290 ∈ lw_tbl := List.mem_of_getElem? (i := 1578) rfl
set_option maxRecDepth 100000 in
theorem cw291 : aWd 291 ∈ lw_tbl := List.mem_of_getElem? (i := 1570) rfl
set_option maxRecDepth 100000 in
theorem cw292 : aWd 292 ∈ lw_tbl := List.mem_of_getElem? (i := 1566) rfl
set_option maxRecDepth 100000 in
theorem cw293 : aWd 293 ∈ lw_tbl := List.mem_of_getElem? (i := 2331) rfl
set_option maxRecDepth 100000 in
theorem cw294 : aWd 294 ∈ lw_tbl := List.mem_of_getElem? (i := 2327) rfl
set_option maxRecDepth 100000 in
theorem cw295 : aWd 295 ∈ lw_tbl := List.mem_of_getElem? (i := 1589) rfl
set_option maxRecDepth 100000 in
theorem cw296 : aWd 296 ∈ lw_tbl := List.mem_of_getElem? (i := 1593) rfl
set_option maxRecDepth 100000 in
theorem cw297 : aWd 297 ∈ lw_tbl := List.mem_of_getElem? (i := 1585) rfl
set_option maxRecDepth 100000 in
theorem cw298 : aWd 298 ∈ lw_tbl := List.mem_of_getElem? (i := 1581) rfl
set_option maxRecDepth 100000 in
theorem cw299 : aWd 299 ∈ lw_tbl := List.mem_of_getElem? (i := 2335) rfl
set_option maxRecDepth 100000 in
theorem cw300 : aWd 300 ∈ lw_tbl := List.mem_of_getElem? (i := 1617) rfl
set_option maxRecDepth 100000 in
theorem cw301 : aWd 301 ∈ lw_tbl := List.mem_of_getElem? (i := 1613) rfl
set_option maxRecDepth 100000 in
theorem cw302 : aWd 302 ∈ lw_tbl := List.mem_of_getElem? (i := 1609) rfl
set_option maxRecDepth 100000 in
theorem cw303 : aWd 303 ∈ lw_tbl := List.mem_of_getElem? (i := 1605) rfl
set_option maxRecDepth 100000 in
theorem cw304 : aWd 304 ∈ lw_tbl := List.mem_of_getElem? (i := 1600) rfl
set_option maxRecDepth 100000 in
theorem cw305 : aWd 305 ∈ lw_tbl := List.mem_of_getElem? (i := 1596) rfl
set_option maxRecDepth 100000 in
theorem cw306 : aWd 306 ∈ lw_tbl := List.mem_of_getElem? (i := 2348) rfl
set_option maxRecDepth 100000 in
theorem cw307 : aWd 307 ∈ lw_tbl := List.mem_of_getElem? (i := 2344) rfl
set_option maxRecDepth 100000 in
theorem cw308 : aWd 308 ∈ lw_tbl := List.mem_of_getElem? (i := 2339) rfl
set_option maxRecDepth 100000 in
theorem cw309 : aWd 309 ∈ lw_tbl := List.mem_of_getElem? (i := 1625) rfl
set_option maxRecDepth 100000 in
theorem cw310 : aWd 310 ∈ lw_tbl := List.mem_of_getElem? (i := 1621) rfl
set_option maxRecDepth 100000 in
theorem cw311 : aWd 311 ∈ lw_tbl := List.mem_of_getElem? (i := 2352) rfl
set_option maxRecDepth 100000 in
theorem cw312 : aWd 312 ∈ lw_tbl := List.mem_of_getElem? (i := 1640) rfl
set_option maxRecDepth 100000 in
theorem cw313 : aWd 313 ∈ lw_tbl := List.mem_of_getElem? (i := 1649) rfl
set_option maxRecDepth 100000 in
theorem cw314 : aWd 314 ∈ lw_tbl := List.mem_of_getElem? (i := 1636) rfl
set_option maxRecDepth 100000 in
theorem cw315 : aWd 315 ∈ lw_tbl := List.mem_of_getElem? (i := 1632) rfl
set_option maxRecDepth 100000 in
theorem cw316 : aWd 316 ∈ lw_tbl := List.mem_of_getElem? (i := 2357) rfl
set_option maxRecDepth 100000 in
theorem cw317 : aWd 317 ∈ lw_tbl := List.mem_of_getElem? (i := 1679) rfl
set_option maxRecDepth 100000 in
theorem cw318 : aWd 318 ∈ lw_tbl := List.mem_of_getElem? (i := 1684) rfl
set_option maxRecDepth 100000 in
theorem cw319 : aWd 319 ∈ lw_tbl := List.mem_of_getElem? (i := 1675) rfl
set_option maxRecDepth 100000 in
theorem cw320 : aWd 320 ∈ lw_tbl := List.mem_of_getElem? (i := 1671) rfl
set_option maxRecDepth 100000 in
theorem cw321 : aWd 321 ∈ lw_tbl := List.mem_of_getElem? (i := 2361) rfl
set_option maxRecDepth 100000 in
theorem cw322 : aWd 322 ∈ lw_tbl := List.mem_of_getElem? (i := 1693) rfl
set_option maxRecDepth 100000 in
theorem cw323 : aWd 323 ∈ lw_tbl := List.mem_of_getElem? (i := 1689) rfl
set_option maxRecDepth 100000 in
theorem cw324 : aWd 324 ∈ lw_tbl := List.mem_of_getElem? (i := 2365) rfl
set_option maxRecDepth 100000 in
theorem cw325 : aWd 325 ∈ lw_tbl := List.mem_of_getElem? (i := 1701) rfl
set_option maxRecDepth 100000 in
theorem cw326 : aWd 326 ∈ lw_tbl := List.mem_of_getElem? (i := 1697) rfl
set_option maxRecDepth 100000 in
theorem cw327 : aWd 327 ∈ lw_tbl := List.mem_of_getElem? (i := 2369) rfl
theorem cwg0 (i : Nat) (h : i < 16) : aWd (16 * 0 + i) ∈ lw_tbl := by
  match i, h with
  | 0, _ => exact cw0
  | 1, _ => exact cw1
  | 2, _ => exact cw2
  | 3, _ => exact cw3
  | 4, _ => exact cw4
  | 5, _ => exact cw5
  | 6, _ => exact cw6
  | 7, _ => exact cw7
  | 8, _ => exact cw8
  | 9, _ => exact cw9
  | 10, _ => exact cw10
  | 11, _ => exact cw11
  | 12, _ => exact cw12
  | 13, _ => exact cw13
  | 14, _ => exact cw14
  | 15, _ => exact cw15
  | i + 16, h => exact absurd h (by omega)
theorem cwg1 (i : Nat) (h : i < 16) : aWd (16 * 1 + i) ∈ lw_tbl := by
  match i, h with
  | 0, _ => exact cw16
  | 1, _ => exact cw17
  | 2, _ => exact cw18
  | 3, _ => exact cw19
  | 4, _ => exact cw20
  | 5, _ => exact cw21
  | 6, _ => exact cw22
  | 7, _ => exact cw23
  | 8, _ => exact cw24
  | 9, _ => exact cw25
  | 10, _ => exact cw26
  | 11, _ => exact cw27
  | 12, _ => exact cw28
  | 13, _ => exact cw29
  | 14, _ => exact cw30
  | 15, _ => exact cw31
  | i + 16, h => exact absurd h (by omega)
theorem cwg2 (i : Nat) (h : i < 16) : aWd (16 * 2 + i) ∈ lw_tbl := by
  match i, h with
  | 0, _ => exact cw32
  | 1, _ => exact cw33
  | 2, _ => exact cw34
  | 3, _ => exact cw35
  | 4, _ => exact cw36
  | 5, _ => exact cw37
  | 6, _ => exact cw38
  | 7, _ => exact cw39
  | 8, _ => exact cw40
  | 9, _ => exact cw41
  | 10, _ => exact cw42
  | 11, _ => exact cw43
  | 12, _ => exact cw44
  | 13, _ => exact cw45
  | 14, _ => exact cw46
  | 15, _ => exact cw47
  | i + 16, h => exact absurd h (by omega)
theorem cwg3 (i : Nat) (h : i < 16) : aWd (16 * 3 + i) ∈ lw_tbl := by
  match i, h with
  | 0, _ => exact cw48
  | 1, _ => exact cw49
  | 2, _ => exact cw50
  | 3, _ => exact cw51
  | 4, _ => exact cw52
  | 5, _ => exact cw53
  | 6, _ => exact cw54
  | 7, _ => exact cw55
  | 8, _ => exact cw56
  | 9, _ => exact cw57
  | 10, _ => exact cw58
  | 11, _ => exact cw59
  | 12, _ => exact cw60
  | 13, _ => exact cw61
  | 14, _ => exact cw62
  | 15, _ => exact cw63
  | i + 16, h => exact absurd h (by omega)
theorem cwg4 (i : Nat) (h : i < 16) : aWd (16 * 4 + i) ∈ lw_tbl := by
  match i, h with
  | 0, _ => exact cw64
  | 1, _ => exact cw65
  | 2, _ => exact cw66
  | 3, _ => exact cw67
  | 4, _ => exact cw68
  | 5, _ => exact cw69
  | 6, _ => exact cw70
  | 7, _ => exact cw71
  | 8, _ => exact cw72
  | 9, _ => exact cw73
  | 10, _ => exact cw74
  | 11, _ => exact cw75
  | 12, _ => exact cw76
  | 13, _ => exact cw77
  | 14, _ => exact cw78
  | 15, _ => exact cw79
  | i + 16, h => exact absurd h (by omega)
theorem cwg5 (i : Nat) (h : i < 16) : aWd (16 * 5 + i) ∈ lw_tbl := by
  match i, h with
  | 0, _ => exact cw80
  | 1, _ => exact cw81
  | 2, _ => exact cw82
  | 3, _ => exact cw83
  | 4, _ => exact cw84
  | 5, _ => exact cw85
  | 6, _ => exact cw86
  | 7, _ => exact cw87
  | 8, _ => exact cw88
  | 9, _ => exact cw89
  | 10, _ => exact cw90
  | 11, _ => exact cw91
  | 12, _ => exact cw92
  | 13, _ => exact cw93
  | 14, _ => exact cw94
  | 15, _ => exact cw95
  | i + 16, h => exact absurd h (by omega)
theorem cwg6 (i : Nat) (h : i < 16) : aWd (16 * 6 + i) ∈ lw_tbl := by
  match i, h with
  | 0, _ => exact cw96
  | 1, _ => exact cw97
  | 2, _ => exact cw98
  | 3, _ => exact cw99
  | 4, _ => exact cw100
  | 5, _ => exact cw101
  | 6, _ => exact cw102
  | 7, _ => exact cw103
  | 8, _ => exact cw104
  | 9, _ => exact cw105
  | 10, _ => exact cw106
  | 11, _ => exact cw107
  | 12, _ => exact cw108
  | 13, _ => exact cw109
  | 14, _ => exact cw110
  | 15, _ => exact cw111
  | i + 16, h => exact absurd h (by omega)
theorem cwg7 (i : Nat) (h : i < 16) : aWd (16 * 7 + i) ∈ lw_tbl := by
  match i, h with
  | 0, _ => exact cw112
  | 1, _ => exact cw113
  | 2, _ => exact cw114
  | 3, _ => exact cw115
  | 4, _ => exact cw116
  | 5, _ => exact cw117
  | 6, _ => exact cw118
  | 7, _ => exact cw119
  | 8, _ => exact cw120
  | 9, _ => exact cw121
  | 10, _ => exact cw122
  | 11, _ => exact cw123
  | 12, _ => exact cw124
  | 13, _ => exact cw125
  | 14, _ => exact cw126
  | 15, _ => exact cw127
  | i + 16, h => exact absurd h (by omega)
theorem cwg8 (i : Nat) (h : i < 16) : aWd (16 * 8 + i) ∈ lw_tbl := by
  match i, h with
  | 0, _ => exact cw128
  | 1, _ => exact cw129
  | 2, _ => exact cw130
  | 3, _ => exact cw131
  | 4, _ => exact cw132
  | 5, _ => exact cw133
  | 6, _ => exact cw134
  | 7, _ => exact cw135
  | 8, _ => exact cw136
  | 9, _ => exact cw137
  | 10, _ => exact cw138
  | 11, _ => exact cw139
  | 12, _ => exact cw140
  | 13, _ => exact cw141
  | 14, _ => exact cw142
  | 15, _ => exact cw143
  | i + 16, h => exact absurd h (by omega)
theorem cwg9 (i : Nat) (h : i < 16) : aWd (16 * 9 + i) ∈ lw_tbl := by
  match i, h with
  | 0, _ => exact cw144
  | 1, _ => exact cw145
  | 2, _ => exact cw146
  | 3, _ => exact cw147
  | 4, _ => exact cw148
  | 5, _ => exact cw149
  | 6, _ => exact cw150
  | 7, _ => exact cw151
  | 8, _ => exact cw152
  | 9, _ => exact cw153
  | 10, _ => exact cw154
  | 11, _ => exact cw155
  | 12, _ => exact cw156
  | 13, _ => exact cw157
  | 14, _ => exact cw158
  | 15, _ => exact cw159
  | i + 16, h => exact absurd h (by omega)
theorem cwg10 (i : Nat) (h : i < 16) : aWd (16 * 10 + i) ∈ lw_tbl := by
  match i, h with
  | 0, _ => exact cw160
  | 1, _ => exact cw161
  | 2, _ => exact cw162
  | 3, _ => exact cw163
  | 4, _ => exact cw164
  | 5, _ => exact cw165
  | 6, _ => exact cw166
  | 7, _ => exact cw167
  | 8, _ => exact cw168
  | 9, _ => exact cw169
  | 10, _ => exact cw170
  | 11, _ => exact cw171
  | 12, _ => exact cw172
  | 13, _ => exact cw173
  | 14, _ => exact cw174
  | 15, _ => exact cw175
  | i + 16, h => exact absurd h (by omega)
theorem cwg11 (i : Nat) (h : i < 16) : aWd (16 * 11 + i) ∈ lw_tbl := by
  match i, h with
  | 0, _ => exact cw176
  | 1, _ => exact cw177
  | 2, _ => exact cw178
  | 3, _ => exact cw179
  | 4, _ => exact cw180
  | 5, _ => exact cw181
  | 6, _ => exact cw182
  | 7, _ => exact cw183
  | 8, _ => exact cw184
  | 9, _ => exact cw185
  | 10, _ => exact cw186
  | 11, _ => exact cw187
  | 12, _ => exact cw188
  | 13, _ => exact cw189
  | 14, _ => exact cw190
  | 15, _ => exact cw191
  | i + 16, h => exact absurd h (by omega)
theorem cwg12 (i : Nat) (h : i < 16) : aWd (16 * 12 + i) ∈ lw_tbl := by
  match i, h with
  | 0, _ => exact cw192
  | 1, _ => exact cw193
  | 2, _ => exact cw194
  | 3, _ => exact cw195
  | 4, _ => exact cw196
  | 5, _ => exact cw197
  | 6, _ => exact cw198
  | 7, _ => exact cw199
  | 8, _ => exact cw200
  | 9, _ => exact cw201
  | 10, _ => exact cw202
  | 11, _ => exact cw203
  | 12, _ => exact cw204
  | 13, _ => exact cw205
  | 14, _ => exact cw206
  | 15, _ => exact cw207
  | i + 16, h => exact absurd h (by omega)
theorem cwg13 (i : Nat) (h : i < 16) : aWd (16 * 13 + i) ∈ lw_tbl := by
  match i, h with
  | 0, _ => exact cw208
  | 1, _ => exact cw209
  | 2, _ => exact cw210
  | 3, _ => exact cw211
  | 4, _ => exact cw212
  | 5, _ => exact cw213
  | 6, _ => exact cw214
  | 7, _ => exact cw215
  | 8, _ => exact cw216
  | 9, _ => exact cw217
  | 10, _ => exact cw218
  | 11, _ => exact cw219
  | 12, _ => exact cw220
  | 13, _ => exact cw221
  | 14, _ => exact cw222
  | 15, _ => exact cw223
  | i + 16, h => exact absurd h (by omega)
theorem cwg14 (i : Nat) (h : i < 16) : aWd (16 * 14 + i) ∈ lw_tbl := by
  match i, h with
  | 0, _ => exact cw224
  | 1, _ => exact cw225
  | 2, _ => exact cw226
  | 3, _ => exact cw227
  | 4, _ => exact cw228
  | 5, _ => exact cw229
  | 6, _ => exact cw230
  | 7, _ => exact cw231
  | 8, _ => exact cw232
  | 9, _ => exact cw233
  | 10, _ => exact cw234
  | 11, _ => exact cw235
  | 12, _ => exact cw236
  | 13, _ => exact cw237
  | 14, _ => exact cw238
  | 15, _ => exact cw239
  | i + 16, h => exact absurd h (by omega)
theorem cwg15 (i : Nat) (h : i < 16) : aWd (16 * 15 + i) ∈ lw_tbl := by
  match i, h with
  | 0, _ => exact cw240
  | 1, _ => exact cw241
  | 2, _ => exact cw242
  | 3, _ => exact cw243
  | 4, _ => exact cw244
  | 5, _ => exact cw245
  | 6, _ => exact cw246
  | 7, _ => exact cw247
  | 8, _ => exact cw248
  | 9, _ => exact cw249
  | 10, _ => exact cw250
  | 11, _ => exact cw251
  | 12, _ => exact cw252
  | 13, _ => exact cw253
  | 14, _ => exact cw254
  | 15, _ => exact cw255
  | i + 16, h => exact absurd h (by omega)
theorem cwg16 (i : Nat) (h : i < 16) : aWd (16 * 16 + i) ∈ lw_tbl := by
  match i, h with
  | 0, _ => exact cw256
  | 1, _ => exact cw257
  | 2, _ => exact cw258
  | 3, _ => exact cw259
  | 4, _ => exact cw260
  | 5, _ => exact cw261
  | 6, _ => exact cw262
  | 7, _ => exact cw263
  | 8, _ => exact cw264
  | 9, _ => exact cw265
  | 10, _ => exact cw266
  | 11, _ => exact cw267
  | 12, _ => exact cw268
  | 13, _ => exact cw269
  | 14, _ => exact cw270
  | 15, _ => exact cw271
  | i + 16, h => exact absurd h (by omega)
theorem cwg17 (i : Nat) (h : i < 16) : aWd (16 * 17 + i) ∈ lw_tbl := by
  match i, h with
  | 0, _ => exact cw272
  | 1, _ => exact cw273
  | 2, _ => exact cw274
  | 3, _ => exact cw275
  | 4, _ => exact cw276
  | 5, _ => exact cw277
  | 6, _ => exact cw278
  | 7, _ => exact cw279
  | 8, _ => exact cw280
  | 9, _ => exact cw281
  | 10, _ => exact cw282
  | 11, _ => exact cw283
  | 12, _ => exact cw284
  | 13, _ => exact cw285
  | 14, _ => exact cw286
  | 15, _ => exact cw287
  | i + 16, h => exact absurd h (by omega)
theorem cwg18 (i : Nat) (h : i < 16) : aWd (16 * 18 + i) ∈ lw_tbl := by
  match i, h with
  | 0, _ => exact cw288
  | 1, _ => exact cw289
  | 2, _ => exact cw290
  | 3, _ => exact cw291
  | 4, _ => exact cw292
  | 5, _ => exact cw293
  | 6, _ => exact cw294
  | 7, _ => exact cw295
  | 8, _ => exact cw296
  | 9, _ => exact cw297
  | 10, _ => exact cw298
  | 11, _ => exact cw299
  | 12, _ => exact cw300
  | 13, _ => exact cw301
  | 14, _ => exact cw302
  | 15, _ => exact cw303
  | i + 16, h => exact absurd h (by omega)
theorem cwg19 (i : Nat) (h : i < 16) : aWd (16 * 19 + i) ∈ lw_tbl := by
  match i, h with
  | 0, _ => exact cw304
  | 1, _ => exact cw305
  | 2, _ => exact cw306
  | 3, _ => exact cw307
  | 4, _ => exact cw308
  | 5, _ => exact cw309
  | 6, _ => exact cw310
  | 7, _ => exact cw311
  | 8, _ => exact cw312
  | 9, _ => exact cw313
  | 10, _ => exact cw314
  | 11, _ => exact cw315
  | 12, _ => exact cw316
  | 13, _ => exact cw317
  | 14, _ => exact cw318
  | 15, _ => exact cw319
  | i + 16, h => exact absurd h (by omega)
theorem cwg20 (i : Nat) (h : i < 8) : aWd (16 * 20 + i) ∈ lw_tbl := by
  match i, h with
  | 0, _ => exact cw320
  | 1, _ => exact cw321
  | 2, _ => exact cw322
  | 3, _ => exact cw323
  | 4, _ => exact cw324
  | 5, _ => exact cw325
  | 6, _ => exact cw326
  | 7, _ => exact cw327
  | i + 8, h => exact absurd h (by omega)
theorem aWd_ok (mi : Nat) (h : mi < 328) : aWd mi ∈ lw_tbl := by
  have e : mi = 16 * (mi / 16) + mi % 16 := by omega
  have h2 : mi % 16 < 16 := Nat.mod_lt _ (by omega)
  have h3 : mi / 16 < 21 := by omega
  rw [e]
  generalize mi / 16 = g at *
  generalize mi % 16 = i at *
  match g, h3 with
  | 0, _ => exact cwg0 i (by omega)
  | 1, _ => exact cwg1 i (by omega)
  | 2, _ => exact cwg2 i (by omega)
  | 3, _ => exact cwg3 i (by omega)
  | 4, _ => exact cwg4 i (by omega)
  | 5, _ => exact cwg5 i (by omega)
  | 6, _ => exact cwg6 i (by omega)
  | 7, _ => exact cwg7 i (by omega)
  | 8, _ => exact cwg8 i (by omega)
  | 9, _ => exact cwg9 i (by omega)
  | 10, _ => exact cwg10 i (by omega)
  | 11, _ => exact cwg11 i (by omega)
  | 12, _ => exact cwg12 i (by omega)
  | 13, _ => exact cwg13 i (by omega)
  | 14, _ => exact cwg14 i (by omega)
  | 15, _ => exact cwg15 i (by omega)
  | 16, _ => exact cwg16 i (by omega)
  | 17, _ => exact cwg17 i (by omega)
  | 18, _ => exact cwg18 i (by omega)
  | 19, _ => exact cwg19 i (by omega)
  | 20, _ => exact cwg20 i (by omega)
  | g + 21, h3 => exact absurd h3 (by omega)
def aPf : List Nat := [0, 7, 8, 9, 19, 20, 48, 65, 91, 92, 93, 94, 95, 96, 97, 98, 116, 117, 118, 119, 152, 202, 203, 215, 220]
set_option maxRecDepth 100000 in
theorem pf0 : plainFor (aMt 0).1 = true := by decide +kernel
set_option maxRecDepth 100000 in
theorem pf7 : plainFor (aMt 7).1 = true := by decide +kernel
set_option maxRecDepth 100000 in
theorem pf8 : plainFor (aMt 8).1 = true := by decide +kernel
set_option maxRecDepth 100000 in
theorem pf9 : plainFor (aMt 9).1 = true := by decide +kernel
set_option maxRecDepth 100000 in
theorem pf19 : plainFor (aMt 19).1 = true := by decide +kernel
set_option maxRecDepth 100000 in
theorem pf20 : plainFor (aMt 20).1 = true := by decide +kernel
set_option maxRecDepth 100000 in
theorem pf48 : plainFor (aMt 48).1 = true := by decide +kernel
set_option maxRecDepth 100000 in
theorem pf65 : plainFor (aMt 65).1 = true := by decide +kernel
set_option maxRecDepth 100000 in
theorem pf91 : plainFor (aMt 91).1 = true := by decide +kernel
set_option maxRecDepth 100000 in
theorem pf92 : plainFor (aMt 92).1 = true := by decide +kernel
set_option maxRecDepth 100000 in
theorem pf93 : plainFor (aMt 93).1 = true := by decide +kernel
set_option maxRecDepth 100000 in
theorem pf94 : plainFor (aMt 94).1 = true := by decide +kernel
set_option maxRecDepth 100000 in
theorem pf95 : plainFor (aMt 95).1 = true := by decide +kernel
set_option maxRecDepth 100000 in
theorem pf96 : plainFor (aMt 96).1 = true := by decide +kernel
set_option maxRecDepth 100000 in
theorem pf97 : plainFor (aMt 97).1 = true := by decide +kernel
set_option maxRecDepth 100000 in
theorem pf98 : plainFor (aMt 98).1 = true := by decide +kernel
set_option maxRecDepth 100000 in
theorem pf116 : plainFor (aMt 116).1 = true := by decide +kernel
set_option maxRecDepth 100000 in
theorem pf117 : plainFor (aMt 117).1 = true := by decide +kernel
set_option maxRecDepth 100000 in
theorem pf118 : plainFor (aMt 118).1 = true := by decide +kernel
set_option maxRecDepth 100000 in
theorem pf119 : plainFor (aMt 119).1 = true := by decide +kernel
set_option maxRecDepth 100000 in
theorem pf152 : plainFor (aMt 152).1 = true := by decide +kernel
set_option maxRecDepth 100000 in
theorem pf202 : plainFor (aMt 202).1 = true := by decide +kernel
set_option maxRecDepth 100000 in
theorem pf203 : plainFor (aMt 203).1 = true := by decide +kernel
set_option maxRecDepth 100000 in
theorem pf215 : plainFor (aMt 215).1 = true := by decide +kernel
set_option maxRecDepth 100000 in
theorem pf220 : plainFor (aMt 220).1 = true := by decide +kernel
def aMlB (q : Nat × Nat × Nat × Nat × Nat × Nat × Nat × Nat × Nat) : Bool := match q with
  | (o, i, mi, kind, pl, pin, pini, psel, _) => decide (kind < 6 ∧ mi < 328) &&
    (if 3 ≤ kind then aAt pl (.methodLinkNest (aOw o) i (aMt mi).1 "CensusOffice") else aAt pl (.methodLink (aOw o) i (aMt mi).1)) &&
    (if kind % 3 = 2 then aAt pin (.static (aMt mi).1) else aAt pin (.instanceMethod (aMt mi).1)) && aAt pini (.initialized (aMt mi).1.cls) &&
    (if kind % 3 = 0 then aAt psel (.selects (aMt mi).1.cls (aMt mi).1 (aMt mi).1) else true)
set_option maxRecDepth 100000 in
theorem aMl_0 : ((aMl.drop 0).take 16).all aMlB = true := by decide +kernel
set_option maxRecDepth 100000 in
theorem aMl_1 : ((aMl.drop 16).take 16).all aMlB = true := by decide +kernel
set_option maxRecDepth 100000 in
theorem aMl_2 : ((aMl.drop 32).take 16).all aMlB = true := by decide +kernel
set_option maxRecDepth 100000 in
theorem aMl_3 : ((aMl.drop 48).take 16).all aMlB = true := by decide +kernel
set_option maxRecDepth 100000 in
theorem aMl_4 : ((aMl.drop 64).take 16).all aMlB = true := by decide +kernel
set_option maxRecDepth 100000 in
theorem aMl_5 : ((aMl.drop 80).take 16).all aMlB = true := by decide +kernel
set_option maxRecDepth 100000 in
theorem aMl_6 : ((aMl.drop 96).take 16).all aMlB = true := by decide +kernel
set_option maxRecDepth 100000 in
theorem aMl_7 : ((aMl.drop 112).take 16).all aMlB = true := by decide +kernel
set_option maxRecDepth 100000 in
theorem aMl_8 : ((aMl.drop 128).take 16).all aMlB = true := by decide +kernel
set_option maxRecDepth 100000 in
theorem aMl_9 : ((aMl.drop 144).take 16).all aMlB = true := by decide +kernel
set_option maxRecDepth 100000 in
theorem aMl_10 : ((aMl.drop 160).take 16).all aMlB = true := by decide +kernel
set_option maxRecDepth 100000 in
theorem aMl_11 : ((aMl.drop 176).take 16).all aMlB = true := by decide +kernel
set_option maxRecDepth 100000 in
theorem aMl_12 : ((aMl.drop 192).take 16).all aMlB = true := by decide +kernel
set_option maxRecDepth 100000 in
theorem aMl_13 : ((aMl.drop 208).take 16).all aMlB = true := by decide +kernel
set_option maxRecDepth 100000 in
theorem aMl_14 : ((aMl.drop 224).take 16).all aMlB = true := by decide +kernel
set_option maxRecDepth 100000 in
theorem aMl_15 : ((aMl.drop 240).take 16).all aMlB = true := by decide +kernel
set_option maxRecDepth 100000 in
theorem aMl_16 : ((aMl.drop 256).take 16).all aMlB = true := by decide +kernel
set_option maxRecDepth 100000 in
theorem aMl_17 : ((aMl.drop 272).take 16).all aMlB = true := by decide +kernel
set_option maxRecDepth 100000 in
theorem aMl_18 : ((aMl.drop 288).take 16).all aMlB = true := by decide +kernel
set_option maxRecDepth 100000 in
theorem aMl_19 : ((aMl.drop 304).take 16).all aMlB = true := by decide +kernel
set_option maxRecDepth 100000 in
theorem aMl_20 : ((aMl.drop 320).take 16).all aMlB = true := by decide +kernel
set_option maxRecDepth 100000 in
theorem aMl_21 : ((aMl.drop 336).take 16).all aMlB = true := by decide +kernel
set_option maxRecDepth 100000 in
theorem aMl_22 : ((aMl.drop 352).take 16).all aMlB = true := by decide +kernel
set_option maxRecDepth 100000 in
theorem aMl_23 : ((aMl.drop 368).take 16).all aMlB = true := by decide +kernel
set_option maxRecDepth 100000 in
theorem aMl_len : aMl.length = 377 := rfl
theorem aMl_sl (k : Nat) : ((aMl.drop (16 * k)).take 16).all aMlB = true := by
  match k with
  | 0 => exact aMl_0
  | 1 => exact aMl_1
  | 2 => exact aMl_2
  | 3 => exact aMl_3
  | 4 => exact aMl_4
  | 5 => exact aMl_5
  | 6 => exact aMl_6
  | 7 => exact aMl_7
  | 8 => exact aMl_8
  | 9 => exact aMl_9
  | 10 => exact aMl_10
  | 11 => exact aMl_11
  | 12 => exact aMl_12
  | 13 => exact aMl_13
  | 14 => exact aMl_14
  | 15 => exact aMl_15
  | 16 => exact aMl_16
  | 17 => exact aMl_17
  | 18 => exact aMl_18
  | 19 => exact aMl_19
  | 20 => exact aMl_20
  | 21 => exact aMl_21
  | 22 => exact aMl_22
  | 23 => exact aMl_23
  | k + 24 =>
    rw [List.drop_eq_nil_of_le (by rw [aMl_len]; omega)]
    rfl
theorem aMl_all : ∀ e ∈ aMl, aMlB e = true := by
  intro e he
  obtain ⟨i, hi⟩ := List.getElem?_of_mem he
  have h := List.all_eq_true.mp (aMl_sl (i / 16)) e
  refine h (List.mem_of_getElem? (i := i % 16) ?_)
  rw [List.getElem?_take_of_lt (Nat.mod_lt _ (by omega)), List.getElem?_drop, show 16 * (i / 16) + i % 16 = i by omega]
  exact hi

def aPn : List String := ["CensusOffice$Rows", "CensusOffice$Register", "CensusOffice$Tape", "CensusOffice$Form", "CensusOffice$Reader", "CensusOffice$Editor", "CensusOffice", "CensusOfficeModel", "CensusOfficeLaw", "CensusOffice$Session", "CensusOffice$Rec", "CensusOffice$Sample", "CensusOffice$Table", "CensusOffice$Release"]
set_option maxRecDepth 100000 in
theorem aPn_ok : aPn.all plainName = true := by decide +kernel
/-- what is asked of a method alone: is it without 'this', has it a reference to a class of ours for it -/
def aMeB (mi : Nat) : Bool := (parseMethodDescriptor (aMt mi).1.desc).isSome &&
    decide ((aMt mi).1.cls ≠ "java/lang/invoke/MethodHandle" ∧ (aMt mi).1.cls ≠ "java/lang/invoke/VarHandle") && (decide ((aMt mi).1.cls ∈ aPn) || decide (mi ∈ aPf)) && decide (aOw (aMt mi).2.1 = (aMt mi).1.cls) && decide ((aInf mi).2.1 = (aMt mi).2.2.2.1 ∧ (aMt mi).2.2.2.1 ≤ 80) &&
    decide ((aInf mi).2.2.1 = true ↔ (aMt mi).2.2.2.2.1 = some .boolean)
set_option maxRecDepth 100000 in
theorem aMe_all : (List.range 328).all aMeB = true := by decide +kernel
def aMkB (q : Nat × Nat × Nat × Nat × Nat × Nat × Nat × Nat × Nat) : Bool := match q with
  | (_, _, mi, kind, _) => decide ((aInf mi).1 = (if kind % 3 = 2 then 0 else 1) + ((parseMethodDescriptor (aMt mi).1.desc).map (fun d => d.parameters.length)).getD 0) &&
    (if kind % 3 = 0 then (List.range 15).any (fun c => decide (0 < c ∧ (aCl.getD c ("", kT0, 0)).1 = (aMt mi).1.cls)) else true) && (if kind % 3 = 1 then decide ((aMt mi).1.name = "<init>" ∧ (aMt mi).2.2.2.2.1 = none) else true) && decide (kind = 2 ∨ (aMt mi).2.2.2.2.2 = [])
set_option maxRecDepth 100000 in
theorem aMk_all : aMl.all aMkB = true := by decide +kernel
