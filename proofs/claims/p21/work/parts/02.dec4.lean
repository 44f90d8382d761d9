def dT_L_law_136 : List UInt8 := (0xf7 : UInt8) :: (0x93 : UInt8) :: (0x04 : UInt8) :: (0xac : UInt8) :: []
def dT_L_law_135 : List UInt8 := (0x2a : UInt8) :: (0x1d : UInt8) :: (0x08 : UInt8) :: (0x60 : UInt8) :: (0x2e : UInt8) :: (0xb6 : UInt8) :: (0x01 : UInt8) :: (0x37 : UInt8) :: (0x57 : UInt8) :: (0xa7 : UInt8) :: (0x00 : UInt8) :: (0x03 : UInt8) :: (0x84 : UInt8) :: (0x03 : UInt8) :: (0x06 : UInt8) :: (0xa7 : UInt8) :: dT_L_law_136
def dT_L_law_134 : List UInt8 := (0x2e : UInt8) :: (0x2a : UInt8) :: (0x1d : UInt8) :: (0x05 : UInt8) :: (0x60 : UInt8) :: (0x2e : UInt8) :: (0x2a : UInt8) :: (0x1d : UInt8) :: (0x06 : UInt8) :: (0x60 : UInt8) :: (0x2e : UInt8) :: (0x2a : UInt8) :: (0x1d : UInt8) :: (0x07 : UInt8) :: (0x60 : UInt8) :: (0x2e : UInt8) :: dT_L_law_135
def dT_L_law_133 : List UInt8 := (0x60 : UInt8) :: (0x2e : UInt8) :: (0x2a : UInt8) :: (0x1d : UInt8) :: (0x08 : UInt8) :: (0x60 : UInt8) :: (0x2e : UInt8) :: (0xb6 : UInt8) :: (0x01 : UInt8) :: (0x34 : UInt8) :: (0x57 : UInt8) :: (0x2c : UInt8) :: (0x2a : UInt8) :: (0x1d : UInt8) :: (0x04 : UInt8) :: (0x60 : UInt8) :: dT_L_law_134
def dT_L_law_132 : List UInt8 := (0x04 : UInt8) :: (0x60 : UInt8) :: (0x2e : UInt8) :: (0x2a : UInt8) :: (0x1d : UInt8) :: (0x05 : UInt8) :: (0x60 : UInt8) :: (0x2e : UInt8) :: (0x2a : UInt8) :: (0x1d : UInt8) :: (0x06 : UInt8) :: (0x60 : UInt8) :: (0x2e : UInt8) :: (0x2a : UInt8) :: (0x1d : UInt8) :: (0x07 : UInt8) :: dT_L_law_133
def dT_L_law_131 : List UInt8 := (0x85 : UInt8) :: (0x14 : UInt8) :: (0x01 : UInt8) :: (0x2d : UInt8) :: (0x7f : UInt8) :: (0x81 : UInt8) :: (0xb6 : UInt8) :: (0x01 : UInt8) :: (0x33 : UInt8) :: (0x57 : UInt8) :: (0xa7 : UInt8) :: (0x00 : UInt8) :: (0x42 : UInt8) :: (0x2b : UInt8) :: (0x2a : UInt8) :: (0x1d : UInt8) :: dT_L_law_132
def dT_L_law_130 : List UInt8 := (0x60 : UInt8) :: (0x2e : UInt8) :: (0x2a : UInt8) :: (0x1d : UInt8) :: (0x06 : UInt8) :: (0x60 : UInt8) :: (0x2e : UInt8) :: (0x85 : UInt8) :: (0x10 : UInt8) :: (0x20 : UInt8) :: (0x79 : UInt8) :: (0x2a : UInt8) :: (0x1d : UInt8) :: (0x07 : UInt8) :: (0x60 : UInt8) :: (0x2e : UInt8) :: dT_L_law_131
def dT_L_law_129 : List UInt8 := (0x2d : UInt8) :: (0x7f : UInt8) :: (0x81 : UInt8) :: (0xb6 : UInt8) :: (0x01 : UInt8) :: (0x2f : UInt8) :: (0x57 : UInt8) :: (0x2c : UInt8) :: (0x2a : UInt8) :: (0x1d : UInt8) :: (0x04 : UInt8) :: (0x60 : UInt8) :: (0x2e : UInt8) :: (0x2a : UInt8) :: (0x1d : UInt8) :: (0x05 : UInt8) :: dT_L_law_130
def dT_L_law_128 : List UInt8 := (0x1d : UInt8) :: (0x06 : UInt8) :: (0x60 : UInt8) :: (0x2e : UInt8) :: (0x85 : UInt8) :: (0x10 : UInt8) :: (0x20 : UInt8) :: (0x79 : UInt8) :: (0x2a : UInt8) :: (0x1d : UInt8) :: (0x07 : UInt8) :: (0x60 : UInt8) :: (0x2e : UInt8) :: (0x85 : UInt8) :: (0x14 : UInt8) :: (0x01 : UInt8) :: dT_L_law_129
def dT_L_law_127 : List UInt8 := (0x57 : UInt8) :: (0xa7 : UInt8) :: (0x00 : UInt8) :: (0x8b : UInt8) :: (0x2b : UInt8) :: (0x2a : UInt8) :: (0x1d : UInt8) :: (0x04 : UInt8) :: (0x60 : UInt8) :: (0x2e : UInt8) :: (0x2a : UInt8) :: (0x1d : UInt8) :: (0x05 : UInt8) :: (0x60 : UInt8) :: (0x2e : UInt8) :: (0x2a : UInt8) :: dT_L_law_128
def dT_L_law_126 : List UInt8 := (0x04 : UInt8) :: (0x60 : UInt8) :: (0x2e : UInt8) :: (0x2a : UInt8) :: (0x1d : UInt8) :: (0x05 : UInt8) :: (0x60 : UInt8) :: (0x2e : UInt8) :: (0x2a : UInt8) :: (0x1d : UInt8) :: (0x06 : UInt8) :: (0x60 : UInt8) :: (0x2e : UInt8) :: (0xb6 : UInt8) :: (0x01 : UInt8) :: (0x2c : UInt8) :: dT_L_law_127
def dT_L_law_125 : List UInt8 := (0x1d : UInt8) :: (0x05 : UInt8) :: (0x60 : UInt8) :: (0x2e : UInt8) :: (0x2a : UInt8) :: (0x1d : UInt8) :: (0x06 : UInt8) :: (0x60 : UInt8) :: (0x2e : UInt8) :: (0xb6 : UInt8) :: (0x01 : UInt8) :: (0x29 : UInt8) :: (0x57 : UInt8) :: (0x2c : UInt8) :: (0x2a : UInt8) :: (0x1d : UInt8) :: dT_L_law_126
def dT_L_law_124 : List UInt8 := (0x60 : UInt8) :: (0x2e : UInt8) :: (0xb6 : UInt8) :: (0x01 : UInt8) :: (0x28 : UInt8) :: (0x57 : UInt8) :: (0xa7 : UInt8) :: (0x00 : UInt8) :: (0xb6 : UInt8) :: (0x2b : UInt8) :: (0x2a : UInt8) :: (0x1d : UInt8) :: (0x04 : UInt8) :: (0x60 : UInt8) :: (0x2e : UInt8) :: (0x2a : UInt8) :: dT_L_law_125
def dT_L_law_123 : List UInt8 := (0x00 : UInt8) :: (0xcd : UInt8) :: (0x2b : UInt8) :: (0x2a : UInt8) :: (0x1d : UInt8) :: (0x04 : UInt8) :: (0x60 : UInt8) :: (0x2e : UInt8) :: (0xb6 : UInt8) :: (0x01 : UInt8) :: (0x25 : UInt8) :: (0x57 : UInt8) :: (0x2c : UInt8) :: (0x2a : UInt8) :: (0x1d : UInt8) :: (0x04 : UInt8) :: dT_L_law_124
def dT_L_law_122 : List UInt8 := (0x2e : UInt8) :: (0xb6 : UInt8) :: (0x01 : UInt8) :: (0x21 : UInt8) :: (0x57 : UInt8) :: (0x2c : UInt8) :: (0x2a : UInt8) :: (0x1d : UInt8) :: (0x04 : UInt8) :: (0x60 : UInt8) :: (0x2e : UInt8) :: (0xb6 : UInt8) :: (0x01 : UInt8) :: (0x24 : UInt8) :: (0x57 : UInt8) :: (0xa7 : UInt8) :: dT_L_law_123
def dT_L_law_121 : List UInt8 := (0x1d : UInt8) :: (0x04 : UInt8) :: (0x60 : UInt8) :: (0x2e : UInt8) :: (0xb6 : UInt8) :: (0x01 : UInt8) :: (0x20 : UInt8) :: (0x57 : UInt8) :: (0xa7 : UInt8) :: (0x00 : UInt8) :: (0xe4 : UInt8) :: (0x2b : UInt8) :: (0x2a : UInt8) :: (0x1d : UInt8) :: (0x04 : UInt8) :: (0x60 : UInt8) :: dT_L_law_122
def dT_L_law_120 : List UInt8 := (0x57 : UInt8) :: (0xa7 : UInt8) :: (0x00 : UInt8) :: (0xfb : UInt8) :: (0x2b : UInt8) :: (0x2a : UInt8) :: (0x1d : UInt8) :: (0x04 : UInt8) :: (0x60 : UInt8) :: (0x2e : UInt8) :: (0xb6 : UInt8) :: (0x01 : UInt8) :: (0x1d : UInt8) :: (0x57 : UInt8) :: (0x2c : UInt8) :: (0x2a : UInt8) :: dT_L_law_121
def dT_L_law_119 : List UInt8 := (0x19 : UInt8) :: (0x57 : UInt8) :: (0x2c : UInt8) :: (0x2a : UInt8) :: (0x1d : UInt8) :: (0x04 : UInt8) :: (0x60 : UInt8) :: (0x2e : UInt8) :: (0x2a : UInt8) :: (0x1d : UInt8) :: (0x05 : UInt8) :: (0x60 : UInt8) :: (0x2e : UInt8) :: (0xb6 : UInt8) :: (0x01 : UInt8) :: (0x1c : UInt8) :: dT_L_law_120
def dT_L_law_118 : List UInt8 := (0xa7 : UInt8) :: (0x01 : UInt8) :: (0x1c : UInt8) :: (0x2b : UInt8) :: (0x2a : UInt8) :: (0x1d : UInt8) :: (0x04 : UInt8) :: (0x60 : UInt8) :: (0x2e : UInt8) :: (0x2a : UInt8) :: (0x1d : UInt8) :: (0x05 : UInt8) :: (0x60 : UInt8) :: (0x2e : UInt8) :: (0xb6 : UInt8) :: (0x01 : UInt8) :: dT_L_law_119
def dT_L_law_117 : List UInt8 := (0x60 : UInt8) :: (0x2e : UInt8) :: (0x2a : UInt8) :: (0x1d : UInt8) :: (0x05 : UInt8) :: (0x60 : UInt8) :: (0x2e : UInt8) :: (0x2a : UInt8) :: (0x1d : UInt8) :: (0x06 : UInt8) :: (0x60 : UInt8) :: (0x2e : UInt8) :: (0xb6 : UInt8) :: (0x01 : UInt8) :: (0x18 : UInt8) :: (0x57 : UInt8) :: dT_L_law_118
def dT_L_law_116 : List UInt8 := (0x05 : UInt8) :: (0x60 : UInt8) :: (0x2e : UInt8) :: (0x2a : UInt8) :: (0x1d : UInt8) :: (0x06 : UInt8) :: (0x60 : UInt8) :: (0x2e : UInt8) :: (0xb6 : UInt8) :: (0x01 : UInt8) :: (0x14 : UInt8) :: (0x57 : UInt8) :: (0x2c : UInt8) :: (0x2a : UInt8) :: (0x1d : UInt8) :: (0x04 : UInt8) :: dT_L_law_117
def dT_L_law_115 : List UInt8 := (0x2e : UInt8) :: (0xb6 : UInt8) :: (0x01 : UInt8) :: (0x13 : UInt8) :: (0x57 : UInt8) :: (0xa7 : UInt8) :: (0x01 : UInt8) :: (0x47 : UInt8) :: (0x2b : UInt8) :: (0x2a : UInt8) :: (0x1d : UInt8) :: (0x04 : UInt8) :: (0x60 : UInt8) :: (0x2e : UInt8) :: (0x2a : UInt8) :: (0x1d : UInt8) :: dT_L_law_116
def dT_L_law_114 : List UInt8 := (0x60 : UInt8) :: (0x2e : UInt8) :: (0xb6 : UInt8) :: (0x01 : UInt8) :: (0x10 : UInt8) :: (0x57 : UInt8) :: (0x2c : UInt8) :: (0x2a : UInt8) :: (0x1d : UInt8) :: (0x04 : UInt8) :: (0x60 : UInt8) :: (0x2e : UInt8) :: (0x2a : UInt8) :: (0x1d : UInt8) :: (0x05 : UInt8) :: (0x60 : UInt8) :: dT_L_law_115
def dT_L_law_113 : List UInt8 := (0xb6 : UInt8) :: (0x01 : UInt8) :: (0x0f : UInt8) :: (0x57 : UInt8) :: (0xa7 : UInt8) :: (0x01 : UInt8) :: (0x68 : UInt8) :: (0x2b : UInt8) :: (0x2a : UInt8) :: (0x1d : UInt8) :: (0x04 : UInt8) :: (0x60 : UInt8) :: (0x2e : UInt8) :: (0x2a : UInt8) :: (0x1d : UInt8) :: (0x05 : UInt8) :: dT_L_law_114
def dT_L_law_112 : List UInt8 := (0x08 : UInt8) :: (0x57 : UInt8) :: (0x2c : UInt8) :: (0xb6 : UInt8) :: (0x01 : UInt8) :: (0x0b : UInt8) :: (0x57 : UInt8) :: (0xa7 : UInt8) :: (0x01 : UInt8) :: (0x75 : UInt8) :: (0x2b : UInt8) :: (0xb6 : UInt8) :: (0x01 : UInt8) :: (0x0c : UInt8) :: (0x57 : UInt8) :: (0x2c : UInt8) :: dT_L_law_113
def dT_L_law_111 : List UInt8 := (0x2e : UInt8) :: (0x2a : UInt8) :: (0x1d : UInt8) :: (0x05 : UInt8) :: (0x60 : UInt8) :: (0x2e : UInt8) :: (0xb6 : UInt8) :: (0x01 : UInt8) :: (0x07 : UInt8) :: (0x57 : UInt8) :: (0xa7 : UInt8) :: (0x01 : UInt8) :: (0x82 : UInt8) :: (0x2b : UInt8) :: (0xb6 : UInt8) :: (0x01 : UInt8) :: dT_L_law_112
def dT_L_law_110 : List UInt8 := (0x60 : UInt8) :: (0x2e : UInt8) :: (0x2a : UInt8) :: (0x1d : UInt8) :: (0x05 : UInt8) :: (0x60 : UInt8) :: (0x2e : UInt8) :: (0xb6 : UInt8) :: (0x01 : UInt8) :: (0x04 : UInt8) :: (0x57 : UInt8) :: (0x2c : UInt8) :: (0x2a : UInt8) :: (0x1d : UInt8) :: (0x04 : UInt8) :: (0x60 : UInt8) :: dT_L_law_111
def dT_L_law_109 : List UInt8 := (0x2a : UInt8) :: (0x1d : UInt8) :: (0x05 : UInt8) :: (0x60 : UInt8) :: (0x2e : UInt8) :: (0xb6 : UInt8) :: (0x01 : UInt8) :: (0x03 : UInt8) :: (0x57 : UInt8) :: (0xa7 : UInt8) :: (0x01 : UInt8) :: (0xa3 : UInt8) :: (0x2b : UInt8) :: (0x2a : UInt8) :: (0x1d : UInt8) :: (0x04 : UInt8) :: dT_L_law_110
def dT_L_law_108 : List UInt8 := (0x2e : UInt8) :: (0x2a : UInt8) :: (0x1d : UInt8) :: (0x05 : UInt8) :: (0x60 : UInt8) :: (0x2e : UInt8) :: (0xb6 : UInt8) :: (0x01 : UInt8) :: (0x00 : UInt8) :: (0x57 : UInt8) :: (0x2c : UInt8) :: (0x2a : UInt8) :: (0x1d : UInt8) :: (0x04 : UInt8) :: (0x60 : UInt8) :: (0x2e : UInt8) :: dT_L_law_109
def dT_L_law_107 : List UInt8 := (0x1d : UInt8) :: (0x05 : UInt8) :: (0x60 : UInt8) :: (0x2e : UInt8) :: (0xb6 : UInt8) :: (0x00 : UInt8) :: (0xff : UInt8) :: (0x58 : UInt8) :: (0xa7 : UInt8) :: (0x01 : UInt8) :: (0xc4 : UInt8) :: (0x2b : UInt8) :: (0x2a : UInt8) :: (0x1d : UInt8) :: (0x04 : UInt8) :: (0x60 : UInt8) :: dT_L_law_108
def dT_L_law_106 : List UInt8 := (0x2a : UInt8) :: (0x1d : UInt8) :: (0x05 : UInt8) :: (0x60 : UInt8) :: (0x2e : UInt8) :: (0xb6 : UInt8) :: (0x00 : UInt8) :: (0xfb : UInt8) :: (0x58 : UInt8) :: (0x2c : UInt8) :: (0x2a : UInt8) :: (0x1d : UInt8) :: (0x04 : UInt8) :: (0x60 : UInt8) :: (0x2e : UInt8) :: (0x2a : UInt8) :: dT_L_law_107
def dT_L_law_105 : List UInt8 := (0x06 : UInt8) :: (0x60 : UInt8) :: (0x2e : UInt8) :: (0xb6 : UInt8) :: (0x00 : UInt8) :: (0xfa : UInt8) :: (0x58 : UInt8) :: (0xa7 : UInt8) :: (0x01 : UInt8) :: (0xe5 : UInt8) :: (0x2b : UInt8) :: (0x2a : UInt8) :: (0x1d : UInt8) :: (0x04 : UInt8) :: (0x60 : UInt8) :: (0x2e : UInt8) :: dT_L_law_106
def dT_L_law_104 : List UInt8 := (0x00 : UInt8) :: (0xf7 : UInt8) :: (0x58 : UInt8) :: (0x2c : UInt8) :: (0x2a : UInt8) :: (0x1d : UInt8) :: (0x04 : UInt8) :: (0x60 : UInt8) :: (0x2e : UInt8) :: (0x2a : UInt8) :: (0x1d : UInt8) :: (0x05 : UInt8) :: (0x60 : UInt8) :: (0x2e : UInt8) :: (0x2a : UInt8) :: (0x1d : UInt8) :: dT_L_law_105
def dT_L_law_103 : List UInt8 := (0x2a : UInt8) :: (0x1d : UInt8) :: (0x04 : UInt8) :: (0x60 : UInt8) :: (0x2e : UInt8) :: (0x2a : UInt8) :: (0x1d : UInt8) :: (0x05 : UInt8) :: (0x60 : UInt8) :: (0x2e : UInt8) :: (0x2a : UInt8) :: (0x1d : UInt8) :: (0x06 : UInt8) :: (0x60 : UInt8) :: (0x2e : UInt8) :: (0xb6 : UInt8) :: dT_L_law_104
def dT_L_law_102 : List UInt8 := (0x05 : UInt8) :: (0x60 : UInt8) :: (0x2e : UInt8) :: (0x2a : UInt8) :: (0x1d : UInt8) :: (0x06 : UInt8) :: (0x60 : UInt8) :: (0x2e : UInt8) :: (0xb6 : UInt8) :: (0x00 : UInt8) :: (0xf6 : UInt8) :: (0x58 : UInt8) :: (0xa7 : UInt8) :: (0x02 : UInt8) :: (0x10 : UInt8) :: (0x2b : UInt8) :: dT_L_law_103
def dT_L_law_101 : List UInt8 := (0x1d : UInt8) :: (0x06 : UInt8) :: (0x60 : UInt8) :: (0x2e : UInt8) :: (0xb6 : UInt8) :: (0x00 : UInt8) :: (0xf2 : UInt8) :: (0x58 : UInt8) :: (0x2c : UInt8) :: (0x2a : UInt8) :: (0x1d : UInt8) :: (0x04 : UInt8) :: (0x60 : UInt8) :: (0x2e : UInt8) :: (0x2a : UInt8) :: (0x1d : UInt8) :: dT_L_law_102
def dT_L_law_100 : List UInt8 := (0x57 : UInt8) :: (0xa7 : UInt8) :: (0x02 : UInt8) :: (0x3b : UInt8) :: (0x2b : UInt8) :: (0x2a : UInt8) :: (0x1d : UInt8) :: (0x04 : UInt8) :: (0x60 : UInt8) :: (0x2e : UInt8) :: (0x2a : UInt8) :: (0x1d : UInt8) :: (0x05 : UInt8) :: (0x60 : UInt8) :: (0x2e : UInt8) :: (0x2a : UInt8) :: dT_L_law_101
def dT_L_law_99 : List UInt8 := (0xb6 : UInt8) :: (0x00 : UInt8) :: (0xed : UInt8) :: (0x57 : UInt8) :: (0xa7 : UInt8) :: (0x02 : UInt8) :: (0x48 : UInt8) :: (0x2b : UInt8) :: (0xb6 : UInt8) :: (0x00 : UInt8) :: (0xee : UInt8) :: (0x57 : UInt8) :: (0x2c : UInt8) :: (0xb6 : UInt8) :: (0x00 : UInt8) :: (0xf1 : UInt8) :: dT_L_law_100
def dT_L_law_98 : List UInt8 := (0x2b : UInt8) :: (0x2a : UInt8) :: (0x1d : UInt8) :: (0x04 : UInt8) :: (0x60 : UInt8) :: (0x2e : UInt8) :: (0xb6 : UInt8) :: (0x00 : UInt8) :: (0xea : UInt8) :: (0x57 : UInt8) :: (0x2c : UInt8) :: (0x2a : UInt8) :: (0x1d : UInt8) :: (0x04 : UInt8) :: (0x60 : UInt8) :: (0x2e : UInt8) :: dT_L_law_99
def dT_L_law_97 : List UInt8 := (0x1d : UInt8) :: (0x06 : UInt8) :: (0x60 : UInt8) :: (0x2e : UInt8) :: (0x2a : UInt8) :: (0x1d : UInt8) :: (0x07 : UInt8) :: (0x60 : UInt8) :: (0x2e : UInt8) :: (0xb6 : UInt8) :: (0x00 : UInt8) :: (0xe9 : UInt8) :: (0x57 : UInt8) :: (0xa7 : UInt8) :: (0x02 : UInt8) :: (0x5f : UInt8) :: dT_L_law_98
def dT_L_law_96 : List UInt8 := (0xb6 : UInt8) :: (0x00 : UInt8) :: (0xe5 : UInt8) :: (0x57 : UInt8) :: (0x2c : UInt8) :: (0x2a : UInt8) :: (0x1d : UInt8) :: (0x04 : UInt8) :: (0x60 : UInt8) :: (0x2e : UInt8) :: (0x2a : UInt8) :: (0x1d : UInt8) :: (0x05 : UInt8) :: (0x60 : UInt8) :: (0x2e : UInt8) :: (0x2a : UInt8) :: dT_L_law_97
def dT_L_law_95 : List UInt8 := (0x2e : UInt8) :: (0x2a : UInt8) :: (0x1d : UInt8) :: (0x05 : UInt8) :: (0x60 : UInt8) :: (0x2e : UInt8) :: (0x2a : UInt8) :: (0x1d : UInt8) :: (0x06 : UInt8) :: (0x60 : UInt8) :: (0x2e : UInt8) :: (0x2a : UInt8) :: (0x1d : UInt8) :: (0x07 : UInt8) :: (0x60 : UInt8) :: (0x2e : UInt8) :: dT_L_law_96
def dT_L_law_94 : List UInt8 := (0x1d : UInt8) :: (0x05 : UInt8) :: (0x60 : UInt8) :: (0x2e : UInt8) :: (0xb6 : UInt8) :: (0x00 : UInt8) :: (0xe4 : UInt8) :: (0x57 : UInt8) :: (0xa7 : UInt8) :: (0x02 : UInt8) :: (0x94 : UInt8) :: (0x2b : UInt8) :: (0x2a : UInt8) :: (0x1d : UInt8) :: (0x04 : UInt8) :: (0x60 : UInt8) :: dT_L_law_95
def dT_L_law_93 : List UInt8 := (0x2a : UInt8) :: (0x1d : UInt8) :: (0x05 : UInt8) :: (0x60 : UInt8) :: (0x2e : UInt8) :: (0xb6 : UInt8) :: (0x00 : UInt8) :: (0xe1 : UInt8) :: (0x57 : UInt8) :: (0x2c : UInt8) :: (0x2a : UInt8) :: (0x1d : UInt8) :: (0x04 : UInt8) :: (0x60 : UInt8) :: (0x2e : UInt8) :: (0x2a : UInt8) :: dT_L_law_94
def dT_L_law_92 : List UInt8 := (0x04 : UInt8) :: (0x60 : UInt8) :: (0x2e : UInt8) :: (0xb6 : UInt8) :: (0x00 : UInt8) :: (0xe0 : UInt8) :: (0x57 : UInt8) :: (0xa7 : UInt8) :: (0x02 : UInt8) :: (0xb5 : UInt8) :: (0x2b : UInt8) :: (0x2a : UInt8) :: (0x1d : UInt8) :: (0x04 : UInt8) :: (0x60 : UInt8) :: (0x2e : UInt8) :: dT_L_law_93
def dT_L_law_91 : List UInt8 := (0xa7 : UInt8) :: (0x02 : UInt8) :: (0xcc : UInt8) :: (0x2b : UInt8) :: (0x2a : UInt8) :: (0x1d : UInt8) :: (0x04 : UInt8) :: (0x60 : UInt8) :: (0x2e : UInt8) :: (0xb6 : UInt8) :: (0x00 : UInt8) :: (0xdd : UInt8) :: (0x57 : UInt8) :: (0x2c : UInt8) :: (0x2a : UInt8) :: (0x1d : UInt8) :: dT_L_law_92
def dT_L_law_90 : List UInt8 := (0x60 : UInt8) :: (0x2e : UInt8) :: (0xb6 : UInt8) :: (0x00 : UInt8) :: (0xd9 : UInt8) :: (0x57 : UInt8) :: (0x2c : UInt8) :: (0x2a : UInt8) :: (0x1d : UInt8) :: (0x04 : UInt8) :: (0x60 : UInt8) :: (0x2e : UInt8) :: (0xb6 : UInt8) :: (0x00 : UInt8) :: (0xdc : UInt8) :: (0x57 : UInt8) :: dT_L_law_91
def dT_L_law_89 : List UInt8 := (0x2a : UInt8) :: (0x1d : UInt8) :: (0x04 : UInt8) :: (0x60 : UInt8) :: (0x2e : UInt8) :: (0xb6 : UInt8) :: (0x00 : UInt8) :: (0xd8 : UInt8) :: (0x57 : UInt8) :: (0xa7 : UInt8) :: (0x02 : UInt8) :: (0xe3 : UInt8) :: (0x2b : UInt8) :: (0x2a : UInt8) :: (0x1d : UInt8) :: (0x04 : UInt8) :: dT_L_law_90
def dT_L_law_88 : List UInt8 := (0xd4 : UInt8) :: (0x57 : UInt8) :: (0xa7 : UInt8) :: (0x02 : UInt8) :: (0xfa : UInt8) :: (0x2b : UInt8) :: (0x2a : UInt8) :: (0x1d : UInt8) :: (0x04 : UInt8) :: (0x60 : UInt8) :: (0x2e : UInt8) :: (0xb6 : UInt8) :: (0x00 : UInt8) :: (0xd5 : UInt8) :: (0x57 : UInt8) :: (0x2c : UInt8) :: dT_L_law_89
def dT_L_law_87 : List UInt8 := (0x1d : UInt8) :: (0x04 : UInt8) :: (0x60 : UInt8) :: (0x2e : UInt8) :: (0xb6 : UInt8) :: (0x00 : UInt8) :: (0xd1 : UInt8) :: (0x57 : UInt8) :: (0x2c : UInt8) :: (0x2a : UInt8) :: (0x1d : UInt8) :: (0x04 : UInt8) :: (0x60 : UInt8) :: (0x2e : UInt8) :: (0xb6 : UInt8) :: (0x00 : UInt8) :: dT_L_law_88
def dT_L_law_86 : List UInt8 := (0x57 : UInt8) :: (0x2c : UInt8) :: (0x2a : UInt8) :: (0x1d : UInt8) :: (0x04 : UInt8) :: (0x60 : UInt8) :: (0x2e : UInt8) :: (0xb6 : UInt8) :: (0x00 : UInt8) :: (0xd0 : UInt8) :: (0x57 : UInt8) :: (0xa7 : UInt8) :: (0x03 : UInt8) :: (0x11 : UInt8) :: (0x2b : UInt8) :: (0x2a : UInt8) :: dT_L_law_87
def dT_L_law_85 : List UInt8 := (0xb6 : UInt8) :: (0x00 : UInt8) :: (0xcc : UInt8) :: (0x57 : UInt8) :: (0xa7 : UInt8) :: (0x03 : UInt8) :: (0x28 : UInt8) :: (0x2b : UInt8) :: (0x2a : UInt8) :: (0x1d : UInt8) :: (0x04 : UInt8) :: (0x60 : UInt8) :: (0x2e : UInt8) :: (0xb6 : UInt8) :: (0x00 : UInt8) :: (0xcd : UInt8) :: dT_L_law_86
def dT_L_law_84 : List UInt8 := (0x2b : UInt8) :: (0x2a : UInt8) :: (0x1d : UInt8) :: (0x04 : UInt8) :: (0x60 : UInt8) :: (0x2e : UInt8) :: (0xb6 : UInt8) :: (0x00 : UInt8) :: (0xc9 : UInt8) :: (0x57 : UInt8) :: (0x2c : UInt8) :: (0x2a : UInt8) :: (0x1d : UInt8) :: (0x04 : UInt8) :: (0x60 : UInt8) :: (0x2e : UInt8) :: dT_L_law_85
def dT_L_law_83 : List UInt8 := (0x00 : UInt8) :: (0xc5 : UInt8) :: (0x57 : UInt8) :: (0x2c : UInt8) :: (0x2a : UInt8) :: (0x1d : UInt8) :: (0x04 : UInt8) :: (0x60 : UInt8) :: (0x2e : UInt8) :: (0xb6 : UInt8) :: (0x00 : UInt8) :: (0xc8 : UInt8) :: (0x57 : UInt8) :: (0xa7 : UInt8) :: (0x03 : UInt8) :: (0x3f : UInt8) :: dT_L_law_84
def dT_L_law_82 : List UInt8 := (0x60 : UInt8) :: (0x2e : UInt8) :: (0xb6 : UInt8) :: (0x00 : UInt8) :: (0xc4 : UInt8) :: (0x57 : UInt8) :: (0xa7 : UInt8) :: (0x03 : UInt8) :: (0x56 : UInt8) :: (0x2b : UInt8) :: (0x2a : UInt8) :: (0x1d : UInt8) :: (0x04 : UInt8) :: (0x60 : UInt8) :: (0x2e : UInt8) :: (0xb6 : UInt8) :: dT_L_law_83
def dT_L_law_81 : List UInt8 := (0x03 : UInt8) :: (0x6d : UInt8) :: (0x2b : UInt8) :: (0x2a : UInt8) :: (0x1d : UInt8) :: (0x04 : UInt8) :: (0x60 : UInt8) :: (0x2e : UInt8) :: (0xb6 : UInt8) :: (0x00 : UInt8) :: (0xc1 : UInt8) :: (0x57 : UInt8) :: (0x2c : UInt8) :: (0x2a : UInt8) :: (0x1d : UInt8) :: (0x04 : UInt8) :: dT_L_law_82
def dT_L_law_80 : List UInt8 := (0x2e : UInt8) :: (0xb6 : UInt8) :: (0x00 : UInt8) :: (0xbd : UInt8) :: (0x57 : UInt8) :: (0x2c : UInt8) :: (0x2a : UInt8) :: (0x1d : UInt8) :: (0x04 : UInt8) :: (0x60 : UInt8) :: (0x2e : UInt8) :: (0xb6 : UInt8) :: (0x00 : UInt8) :: (0xc0 : UInt8) :: (0x57 : UInt8) :: (0xa7 : UInt8) :: dT_L_law_81
def dT_L_law_79 : List UInt8 := (0x1d : UInt8) :: (0x04 : UInt8) :: (0x60 : UInt8) :: (0x2e : UInt8) :: (0xb6 : UInt8) :: (0x00 : UInt8) :: (0xbc : UInt8) :: (0x57 : UInt8) :: (0xa7 : UInt8) :: (0x03 : UInt8) :: (0x84 : UInt8) :: (0x2b : UInt8) :: (0x2a : UInt8) :: (0x1d : UInt8) :: (0x04 : UInt8) :: (0x60 : UInt8) :: dT_L_law_80
def dT_L_law_78 : List UInt8 := (0x57 : UInt8) :: (0xa7 : UInt8) :: (0x03 : UInt8) :: (0x9b : UInt8) :: (0x2b : UInt8) :: (0x2a : UInt8) :: (0x1d : UInt8) :: (0x04 : UInt8) :: (0x60 : UInt8) :: (0x2e : UInt8) :: (0xb6 : UInt8) :: (0x00 : UInt8) :: (0xb9 : UInt8) :: (0x57 : UInt8) :: (0x2c : UInt8) :: (0x2a : UInt8) :: dT_L_law_79
def dT_L_law_77 : List UInt8 := (0x04 : UInt8) :: (0x60 : UInt8) :: (0x2e : UInt8) :: (0xb6 : UInt8) :: (0x00 : UInt8) :: (0xb5 : UInt8) :: (0x57 : UInt8) :: (0x2c : UInt8) :: (0x2a : UInt8) :: (0x1d : UInt8) :: (0x04 : UInt8) :: (0x60 : UInt8) :: (0x2e : UInt8) :: (0xb6 : UInt8) :: (0x00 : UInt8) :: (0xb8 : UInt8) :: dT_L_law_78
def dT_L_law_76 : List UInt8 := (0x2c : UInt8) :: (0x2a : UInt8) :: (0x1d : UInt8) :: (0x04 : UInt8) :: (0x60 : UInt8) :: (0x2e : UInt8) :: (0xb6 : UInt8) :: (0x00 : UInt8) :: (0xb4 : UInt8) :: (0x57 : UInt8) :: (0xa7 : UInt8) :: (0x03 : UInt8) :: (0xb2 : UInt8) :: (0x2b : UInt8) :: (0x2a : UInt8) :: (0x1d : UInt8) :: dT_L_law_77
def dT_L_law_75 : List UInt8 := (0x00 : UInt8) :: (0xb0 : UInt8) :: (0x57 : UInt8) :: (0xa7 : UInt8) :: (0x03 : UInt8) :: (0xc9 : UInt8) :: (0x2b : UInt8) :: (0x2a : UInt8) :: (0x1d : UInt8) :: (0x04 : UInt8) :: (0x60 : UInt8) :: (0x2e : UInt8) :: (0xb6 : UInt8) :: (0x00 : UInt8) :: (0xb1 : UInt8) :: (0x57 : UInt8) :: dT_L_law_76
def dT_L_law_74 : List UInt8 := (0x60 : UInt8) :: (0x2e : UInt8) :: (0xb6 : UInt8) :: (0x00 : UInt8) :: (0xac : UInt8) :: (0x57 : UInt8) :: (0xa7 : UInt8) :: (0x03 : UInt8) :: (0xd6 : UInt8) :: (0x2b : UInt8) :: (0xb6 : UInt8) :: (0x00 : UInt8) :: (0xad : UInt8) :: (0x57 : UInt8) :: (0x2c : UInt8) :: (0xb6 : UInt8) :: dT_L_law_75
def dT_L_law_73 : List UInt8 := (0x03 : UInt8) :: (0xed : UInt8) :: (0x2b : UInt8) :: (0x2a : UInt8) :: (0x1d : UInt8) :: (0x04 : UInt8) :: (0x60 : UInt8) :: (0x2e : UInt8) :: (0xb6 : UInt8) :: (0x00 : UInt8) :: (0xa9 : UInt8) :: (0x57 : UInt8) :: (0x2c : UInt8) :: (0x2a : UInt8) :: (0x1d : UInt8) :: (0x04 : UInt8) :: dT_L_law_74
def dT_L_law_72 : List UInt8 := (0xa4 : UInt8) :: (0x57 : UInt8) :: (0xa7 : UInt8) :: (0x03 : UInt8) :: (0xfa : UInt8) :: (0x2b : UInt8) :: (0xb6 : UInt8) :: (0x00 : UInt8) :: (0xa5 : UInt8) :: (0x57 : UInt8) :: (0x2c : UInt8) :: (0xb6 : UInt8) :: (0x00 : UInt8) :: (0xa8 : UInt8) :: (0x57 : UInt8) :: (0xa7 : UInt8) :: dT_L_law_73
def dT_L_law_71 : List UInt8 := (0x2c : UInt8) :: (0xb6 : UInt8) :: (0x00 : UInt8) :: (0xa0 : UInt8) :: (0x57 : UInt8) :: (0xa7 : UInt8) :: (0x04 : UInt8) :: (0x07 : UInt8) :: (0x2b : UInt8) :: (0xb6 : UInt8) :: (0x00 : UInt8) :: (0xa1 : UInt8) :: (0x57 : UInt8) :: (0x2c : UInt8) :: (0xb6 : UInt8) :: (0x00 : UInt8) :: dT_L_law_72
def dT_L_law_70 : List UInt8 := (0x1d : UInt8) :: (0x04 : UInt8) :: (0x60 : UInt8) :: (0x2e : UInt8) :: (0xb6 : UInt8) :: (0x00 : UInt8) :: (0x9c : UInt8) :: (0x57 : UInt8) :: (0xa7 : UInt8) :: (0x04 : UInt8) :: (0x14 : UInt8) :: (0x2b : UInt8) :: (0xb6 : UInt8) :: (0x00 : UInt8) :: (0x9d : UInt8) :: (0x57 : UInt8) :: dT_L_law_71
def dT_L_law_69 : List UInt8 := (0x57 : UInt8) :: (0xa7 : UInt8) :: (0x04 : UInt8) :: (0x2b : UInt8) :: (0x2b : UInt8) :: (0x2a : UInt8) :: (0x1d : UInt8) :: (0x04 : UInt8) :: (0x60 : UInt8) :: (0x2e : UInt8) :: (0xb6 : UInt8) :: (0x00 : UInt8) :: (0x99 : UInt8) :: (0x57 : UInt8) :: (0x2c : UInt8) :: (0x2a : UInt8) :: dT_L_law_70
def dT_L_law_68 : List UInt8 := (0xb6 : UInt8) :: (0x00 : UInt8) :: (0x94 : UInt8) :: (0x57 : UInt8) :: (0xa7 : UInt8) :: (0x04 : UInt8) :: (0x38 : UInt8) :: (0x2b : UInt8) :: (0xb6 : UInt8) :: (0x00 : UInt8) :: (0x95 : UInt8) :: (0x57 : UInt8) :: (0x2c : UInt8) :: (0xb6 : UInt8) :: (0x00 : UInt8) :: (0x98 : UInt8) :: dT_L_law_69
def dT_L_law_67 : List UInt8 := (0x2b : UInt8) :: (0x2a : UInt8) :: (0x1d : UInt8) :: (0x04 : UInt8) :: (0x60 : UInt8) :: (0x2e : UInt8) :: (0xb6 : UInt8) :: (0x00 : UInt8) :: (0x91 : UInt8) :: (0x57 : UInt8) :: (0x2c : UInt8) :: (0x2a : UInt8) :: (0x1d : UInt8) :: (0x04 : UInt8) :: (0x60 : UInt8) :: (0x2e : UInt8) :: dT_L_law_68
def dT_L_law_66 : List UInt8 := (0x00 : UInt8) :: (0x8d : UInt8) :: (0x57 : UInt8) :: (0x2c : UInt8) :: (0x2a : UInt8) :: (0x1d : UInt8) :: (0x04 : UInt8) :: (0x60 : UInt8) :: (0x2e : UInt8) :: (0xb6 : UInt8) :: (0x00 : UInt8) :: (0x90 : UInt8) :: (0x57 : UInt8) :: (0xa7 : UInt8) :: (0x04 : UInt8) :: (0x4f : UInt8) :: dT_L_law_67
def dT_L_law_65 : List UInt8 := (0x60 : UInt8) :: (0x2e : UInt8) :: (0xb6 : UInt8) :: (0x00 : UInt8) :: (0x8c : UInt8) :: (0x57 : UInt8) :: (0xa7 : UInt8) :: (0x04 : UInt8) :: (0x66 : UInt8) :: (0x2b : UInt8) :: (0x2a : UInt8) :: (0x1d : UInt8) :: (0x04 : UInt8) :: (0x60 : UInt8) :: (0x2e : UInt8) :: (0xb6 : UInt8) :: dT_L_law_66
def dT_L_law_64 : List UInt8 := (0x04 : UInt8) :: (0x7d : UInt8) :: (0x2b : UInt8) :: (0x2a : UInt8) :: (0x1d : UInt8) :: (0x04 : UInt8) :: (0x60 : UInt8) :: (0x2e : UInt8) :: (0xb6 : UInt8) :: (0x00 : UInt8) :: (0x89 : UInt8) :: (0x57 : UInt8) :: (0x2c : UInt8) :: (0x2a : UInt8) :: (0x1d : UInt8) :: (0x04 : UInt8) :: dT_L_law_65
def dT_L_law_63 : List UInt8 := (0x2e : UInt8) :: (0xb6 : UInt8) :: (0x00 : UInt8) :: (0x85 : UInt8) :: (0x57 : UInt8) :: (0x2c : UInt8) :: (0x2a : UInt8) :: (0x1d : UInt8) :: (0x04 : UInt8) :: (0x60 : UInt8) :: (0x2e : UInt8) :: (0xb6 : UInt8) :: (0x00 : UInt8) :: (0x88 : UInt8) :: (0x57 : UInt8) :: (0xa7 : UInt8) :: dT_L_law_64
def dT_L_law_62 : List UInt8 := (0x00 : UInt8) :: (0x81 : UInt8) :: (0x57 : UInt8) :: (0x2c : UInt8) :: (0xb6 : UInt8) :: (0x00 : UInt8) :: (0x84 : UInt8) :: (0x57 : UInt8) :: (0xa7 : UInt8) :: (0x04 : UInt8) :: (0x94 : UInt8) :: (0x2b : UInt8) :: (0x2a : UInt8) :: (0x1d : UInt8) :: (0x04 : UInt8) :: (0x60 : UInt8) :: dT_L_law_63
def dT_L_law_61 : List UInt8 := (0x57 : UInt8) :: (0x2c : UInt8) :: (0x2a : UInt8) :: (0x1d : UInt8) :: (0x04 : UInt8) :: (0x60 : UInt8) :: (0x2e : UInt8) :: (0xb6 : UInt8) :: (0x00 : UInt8) :: (0x80 : UInt8) :: (0x57 : UInt8) :: (0xa7 : UInt8) :: (0x04 : UInt8) :: (0xa1 : UInt8) :: (0x2b : UInt8) :: (0xb6 : UInt8) :: dT_L_law_62
def dT_L_law_60 : List UInt8 := (0xb6 : UInt8) :: (0x00 : UInt8) :: (0x7c : UInt8) :: (0x57 : UInt8) :: (0xa7 : UInt8) :: (0x04 : UInt8) :: (0xb8 : UInt8) :: (0x2b : UInt8) :: (0x2a : UInt8) :: (0x1d : UInt8) :: (0x04 : UInt8) :: (0x60 : UInt8) :: (0x2e : UInt8) :: (0xb6 : UInt8) :: (0x00 : UInt8) :: (0x7d : UInt8) :: dT_L_law_61
def dT_L_law_59 : List UInt8 := (0x2b : UInt8) :: (0x2a : UInt8) :: (0x1d : UInt8) :: (0x04 : UInt8) :: (0x60 : UInt8) :: (0x2e : UInt8) :: (0xb6 : UInt8) :: (0x00 : UInt8) :: (0x79 : UInt8) :: (0x57 : UInt8) :: (0x2c : UInt8) :: (0x2a : UInt8) :: (0x1d : UInt8) :: (0x04 : UInt8) :: (0x60 : UInt8) :: (0x2e : UInt8) :: dT_L_law_60
def dT_L_law_58 : List UInt8 := (0xa7 : UInt8) :: (0x04 : UInt8) :: (0xdc : UInt8) :: (0x2b : UInt8) :: (0xb6 : UInt8) :: (0x00 : UInt8) :: (0x75 : UInt8) :: (0x57 : UInt8) :: (0x2c : UInt8) :: (0xb6 : UInt8) :: (0x00 : UInt8) :: (0x78 : UInt8) :: (0x57 : UInt8) :: (0xa7 : UInt8) :: (0x04 : UInt8) :: (0xcf : UInt8) :: dT_L_law_59
def dT_L_law_57 : List UInt8 := (0x60 : UInt8) :: (0x2e : UInt8) :: (0xb6 : UInt8) :: (0x00 : UInt8) :: (0x71 : UInt8) :: (0x57 : UInt8) :: (0x2c : UInt8) :: (0x2a : UInt8) :: (0x1d : UInt8) :: (0x04 : UInt8) :: (0x60 : UInt8) :: (0x2e : UInt8) :: (0xb6 : UInt8) :: (0x00 : UInt8) :: (0x74 : UInt8) :: (0x57 : UInt8) :: dT_L_law_58
def dT_L_law_56 : List UInt8 := (0x2a : UInt8) :: (0x1d : UInt8) :: (0x04 : UInt8) :: (0x60 : UInt8) :: (0x2e : UInt8) :: (0xb6 : UInt8) :: (0x00 : UInt8) :: (0x70 : UInt8) :: (0x57 : UInt8) :: (0xa7 : UInt8) :: (0x04 : UInt8) :: (0xf3 : UInt8) :: (0x2b : UInt8) :: (0x2a : UInt8) :: (0x1d : UInt8) :: (0x04 : UInt8) :: dT_L_law_57
def dT_L_law_55 : List UInt8 := (0x6c : UInt8) :: (0x57 : UInt8) :: (0xa7 : UInt8) :: (0x05 : UInt8) :: (0x0a : UInt8) :: (0x2b : UInt8) :: (0x2a : UInt8) :: (0x1d : UInt8) :: (0x04 : UInt8) :: (0x60 : UInt8) :: (0x2e : UInt8) :: (0xb6 : UInt8) :: (0x00 : UInt8) :: (0x6d : UInt8) :: (0x57 : UInt8) :: (0x2c : UInt8) :: dT_L_law_56
def dT_L_law_54 : List UInt8 := (0x2e : UInt8) :: (0xb6 : UInt8) :: (0x00 : UInt8) :: (0x68 : UInt8) :: (0x57 : UInt8) :: (0xa7 : UInt8) :: (0x05 : UInt8) :: (0x17 : UInt8) :: (0x2b : UInt8) :: (0xb6 : UInt8) :: (0x00 : UInt8) :: (0x69 : UInt8) :: (0x57 : UInt8) :: (0x2c : UInt8) :: (0xb6 : UInt8) :: (0x00 : UInt8) :: dT_L_law_55
def dT_L_law_53 : List UInt8 := (0x2e : UInt8) :: (0x2b : UInt8) :: (0x2a : UInt8) :: (0x1d : UInt8) :: (0x04 : UInt8) :: (0x60 : UInt8) :: (0x2e : UInt8) :: (0xb6 : UInt8) :: (0x00 : UInt8) :: (0x65 : UInt8) :: (0x57 : UInt8) :: (0x2c : UInt8) :: (0x2a : UInt8) :: (0x1d : UInt8) :: (0x04 : UInt8) :: (0x60 : UInt8) :: dT_L_law_54
def dT_L_law_52 : List UInt8 := (0x2a : UInt8) :: (0x1d : UInt8) :: (0x04 : UInt8) :: (0x60 : UInt8) :: (0x2e : UInt8) :: (0x2a : UInt8) :: (0x1d : UInt8) :: (0x05 : UInt8) :: (0x60 : UInt8) :: (0x2e : UInt8) :: (0xb6 : UInt8) :: (0x00 : UInt8) :: (0x64 : UInt8) :: (0x57 : UInt8) :: (0xa7 : UInt8) :: (0x05 : UInt8) :: dT_L_law_53
def dT_L_law_51 : List UInt8 := (0x2b : UInt8) :: (0x2a : UInt8) :: (0x1d : UInt8) :: (0x04 : UInt8) :: (0x60 : UInt8) :: (0x2e : UInt8) :: (0x2a : UInt8) :: (0x1d : UInt8) :: (0x05 : UInt8) :: (0x60 : UInt8) :: (0x2e : UInt8) :: (0xb6 : UInt8) :: (0x00 : UInt8) :: (0x61 : UInt8) :: (0x57 : UInt8) :: (0x2c : UInt8) :: dT_L_law_52
def dT_L_law_50 : List UInt8 := (0x00 : UInt8) :: (0x5d : UInt8) :: (0x2c : UInt8) :: (0x2a : UInt8) :: (0x1d : UInt8) :: (0x04 : UInt8) :: (0x60 : UInt8) :: (0x2e : UInt8) :: (0xb6 : UInt8) :: (0x00 : UInt8) :: (0x60 : UInt8) :: (0x9f : UInt8) :: (0x05 : UInt8) :: (0x51 : UInt8) :: (0x03 : UInt8) :: (0xac : UInt8) :: dT_L_law_51
def dT_L_law_49 : List UInt8 := (0x57 : UInt8) :: (0x2c : UInt8) :: (0xb6 : UInt8) :: (0x00 : UInt8) :: (0x5c : UInt8) :: (0x57 : UInt8) :: (0xa7 : UInt8) :: (0x05 : UInt8) :: (0x66 : UInt8) :: (0x2b : UInt8) :: (0x2a : UInt8) :: (0x1d : UInt8) :: (0x04 : UInt8) :: (0x60 : UInt8) :: (0x2e : UInt8) :: (0xb6 : UInt8) :: dT_L_law_50
def dT_L_law_48 : List UInt8 := (0xb6 : UInt8) :: (0x00 : UInt8) :: (0x55 : UInt8) :: (0x57 : UInt8) :: (0x2c : UInt8) :: (0xb6 : UInt8) :: (0x00 : UInt8) :: (0x58 : UInt8) :: (0x57 : UInt8) :: (0xa7 : UInt8) :: (0x05 : UInt8) :: (0x73 : UInt8) :: (0x2b : UInt8) :: (0xb6 : UInt8) :: (0x00 : UInt8) :: (0x59 : UInt8) :: dT_L_law_49
def dT_L_law_47 : List UInt8 := (0x05 : UInt8) :: (0x8d : UInt8) :: (0x2b : UInt8) :: (0xb6 : UInt8) :: (0x00 : UInt8) :: (0x51 : UInt8) :: (0x57 : UInt8) :: (0x2c : UInt8) :: (0xb6 : UInt8) :: (0x00 : UInt8) :: (0x54 : UInt8) :: (0x57 : UInt8) :: (0xa7 : UInt8) :: (0x05 : UInt8) :: (0x80 : UInt8) :: (0x2b : UInt8) :: dT_L_law_48
def dT_L_law_46 : List UInt8 := (0x2e : UInt8) :: (0xb6 : UInt8) :: (0x00 : UInt8) :: (0x4d : UInt8) :: (0x57 : UInt8) :: (0x2c : UInt8) :: (0x2a : UInt8) :: (0x1d : UInt8) :: (0x04 : UInt8) :: (0x60 : UInt8) :: (0x2e : UInt8) :: (0xb6 : UInt8) :: (0x00 : UInt8) :: (0x50 : UInt8) :: (0x57 : UInt8) :: (0xa7 : UInt8) :: dT_L_law_47
def dT_L_law_45 : List UInt8 := (0x1d : UInt8) :: (0x04 : UInt8) :: (0x60 : UInt8) :: (0x2e : UInt8) :: (0xb6 : UInt8) :: (0x00 : UInt8) :: (0x4c : UInt8) :: (0x57 : UInt8) :: (0xa7 : UInt8) :: (0x05 : UInt8) :: (0xa4 : UInt8) :: (0x2b : UInt8) :: (0x2a : UInt8) :: (0x1d : UInt8) :: (0x04 : UInt8) :: (0x60 : UInt8) :: dT_L_law_46
def dT_L_law_44 : List UInt8 := (0x57 : UInt8) :: (0xa7 : UInt8) :: (0x05 : UInt8) :: (0xbb : UInt8) :: (0x2b : UInt8) :: (0x2a : UInt8) :: (0x1d : UInt8) :: (0x04 : UInt8) :: (0x60 : UInt8) :: (0x2e : UInt8) :: (0xb6 : UInt8) :: (0x00 : UInt8) :: (0x49 : UInt8) :: (0x57 : UInt8) :: (0x2c : UInt8) :: (0x2a : UInt8) :: dT_L_law_45
def dT_L_law_43 : List UInt8 := (0x04 : UInt8) :: (0x60 : UInt8) :: (0x2e : UInt8) :: (0xb6 : UInt8) :: (0x00 : UInt8) :: (0x45 : UInt8) :: (0x57 : UInt8) :: (0x2c : UInt8) :: (0x2a : UInt8) :: (0x1d : UInt8) :: (0x04 : UInt8) :: (0x60 : UInt8) :: (0x2e : UInt8) :: (0xb6 : UInt8) :: (0x00 : UInt8) :: (0x48 : UInt8) :: dT_L_law_44
def dT_L_law_42 : List UInt8 := (0x2e : UInt8) :: (0x2a : UInt8) :: (0x1d : UInt8) :: (0x05 : UInt8) :: (0x60 : UInt8) :: (0x2e : UInt8) :: (0xb6 : UInt8) :: (0x00 : UInt8) :: (0x44 : UInt8) :: (0x57 : UInt8) :: (0xa7 : UInt8) :: (0x05 : UInt8) :: (0xd2 : UInt8) :: (0x2b : UInt8) :: (0x2a : UInt8) :: (0x1d : UInt8) :: dT_L_law_43
def dT_L_law_41 : List UInt8 := (0x60 : UInt8) :: (0x2e : UInt8) :: (0x2a : UInt8) :: (0x1d : UInt8) :: (0x05 : UInt8) :: (0x60 : UInt8) :: (0x2e : UInt8) :: (0xb6 : UInt8) :: (0x00 : UInt8) :: (0x41 : UInt8) :: (0x57 : UInt8) :: (0x2c : UInt8) :: (0x2a : UInt8) :: (0x1d : UInt8) :: (0x04 : UInt8) :: (0x60 : UInt8) :: dT_L_law_42
def dT_L_law_40 : List UInt8 := (0x2a : UInt8) :: (0x1d : UInt8) :: (0x04 : UInt8) :: (0x60 : UInt8) :: (0x2e : UInt8) :: (0xb6 : UInt8) :: (0x00 : UInt8) :: (0x40 : UInt8) :: (0x57 : UInt8) :: (0xa7 : UInt8) :: (0x05 : UInt8) :: (0xf3 : UInt8) :: (0x2b : UInt8) :: (0x2a : UInt8) :: (0x1d : UInt8) :: (0x04 : UInt8) :: dT_L_law_41
def dT_L_law_39 : List UInt8 := (0x3c : UInt8) :: (0x57 : UInt8) :: (0xa7 : UInt8) :: (0x06 : UInt8) :: (0x0a : UInt8) :: (0x2b : UInt8) :: (0x2a : UInt8) :: (0x1d : UInt8) :: (0x04 : UInt8) :: (0x60 : UInt8) :: (0x2e : UInt8) :: (0xb6 : UInt8) :: (0x00 : UInt8) :: (0x3d : UInt8) :: (0x57 : UInt8) :: (0x2c : UInt8) :: dT_L_law_40
def dT_L_law_38 : List UInt8 := (0x2e : UInt8) :: (0xb6 : UInt8) :: (0x00 : UInt8) :: (0x38 : UInt8) :: (0x57 : UInt8) :: (0xa7 : UInt8) :: (0x06 : UInt8) :: (0x17 : UInt8) :: (0x2b : UInt8) :: (0xb6 : UInt8) :: (0x00 : UInt8) :: (0x39 : UInt8) :: (0x57 : UInt8) :: (0x2c : UInt8) :: (0xb6 : UInt8) :: (0x00 : UInt8) :: dT_L_law_39
def dT_L_law_37 : List UInt8 := (0x2e : UInt8) :: (0x2b : UInt8) :: (0x2a : UInt8) :: (0x1d : UInt8) :: (0x04 : UInt8) :: (0x60 : UInt8) :: (0x2e : UInt8) :: (0xb6 : UInt8) :: (0x00 : UInt8) :: (0x35 : UInt8) :: (0x57 : UInt8) :: (0x2c : UInt8) :: (0x2a : UInt8) :: (0x1d : UInt8) :: (0x04 : UInt8) :: (0x60 : UInt8) :: dT_L_law_38
def dT_L_law_36 : List UInt8 := (0xb6 : UInt8) :: (0x00 : UInt8) :: (0x31 : UInt8) :: (0x57 : UInt8) :: (0x2c : UInt8) :: (0x2a : UInt8) :: (0x1d : UInt8) :: (0x04 : UInt8) :: (0x60 : UInt8) :: (0x2e : UInt8) :: (0xb6 : UInt8) :: (0x00 : UInt8) :: (0x34 : UInt8) :: (0x57 : UInt8) :: (0xa7 : UInt8) :: (0x06 : UInt8) :: dT_L_law_37
def dT_L_law_35 : List UInt8 := (0x04 : UInt8) :: (0x60 : UInt8) :: (0x2e : UInt8) :: (0xb6 : UInt8) :: (0x00 : UInt8) :: (0x30 : UInt8) :: (0x57 : UInt8) :: (0xa7 : UInt8) :: (0x06 : UInt8) :: (0x45 : UInt8) :: (0x2b : UInt8) :: (0x2a : UInt8) :: (0x1d : UInt8) :: (0x04 : UInt8) :: (0x60 : UInt8) :: (0x2e : UInt8) :: dT_L_law_36
def dT_L_law_34 : List UInt8 := (0xa7 : UInt8) :: (0x06 : UInt8) :: (0x5c : UInt8) :: (0x2b : UInt8) :: (0x2a : UInt8) :: (0x1d : UInt8) :: (0x04 : UInt8) :: (0x60 : UInt8) :: (0x2e : UInt8) :: (0xb6 : UInt8) :: (0x00 : UInt8) :: (0x2d : UInt8) :: (0x57 : UInt8) :: (0x2c : UInt8) :: (0x2a : UInt8) :: (0x1d : UInt8) :: dT_L_law_35
def dT_L_law_33 : List UInt8 := (0x60 : UInt8) :: (0x2e : UInt8) :: (0xb6 : UInt8) :: (0x00 : UInt8) :: (0x29 : UInt8) :: (0x57 : UInt8) :: (0x2c : UInt8) :: (0x2a : UInt8) :: (0x1d : UInt8) :: (0x04 : UInt8) :: (0x60 : UInt8) :: (0x2e : UInt8) :: (0xb6 : UInt8) :: (0x00 : UInt8) :: (0x2c : UInt8) :: (0x57 : UInt8) :: dT_L_law_34
def dT_L_law_32 : List UInt8 := (0x2a : UInt8) :: (0x1d : UInt8) :: (0x05 : UInt8) :: (0x60 : UInt8) :: (0x2e : UInt8) :: (0xb6 : UInt8) :: (0x00 : UInt8) :: (0x28 : UInt8) :: (0x57 : UInt8) :: (0xa7 : UInt8) :: (0x06 : UInt8) :: (0x73 : UInt8) :: (0x2b : UInt8) :: (0x2a : UInt8) :: (0x1d : UInt8) :: (0x04 : UInt8) :: dT_L_law_33
def dT_L_law_31 : List UInt8 := (0x2e : UInt8) :: (0x2a : UInt8) :: (0x1d : UInt8) :: (0x05 : UInt8) :: (0x60 : UInt8) :: (0x2e : UInt8) :: (0xb6 : UInt8) :: (0x00 : UInt8) :: (0x25 : UInt8) :: (0x57 : UInt8) :: (0x2c : UInt8) :: (0x2a : UInt8) :: (0x1d : UInt8) :: (0x04 : UInt8) :: (0x60 : UInt8) :: (0x2e : UInt8) :: dT_L_law_32
def dT_L_law_30 : List UInt8 := (0x1d : UInt8) :: (0x05 : UInt8) :: (0x60 : UInt8) :: (0x2e : UInt8) :: (0xb6 : UInt8) :: (0x00 : UInt8) :: (0x24 : UInt8) :: (0x57 : UInt8) :: (0xa7 : UInt8) :: (0x06 : UInt8) :: (0x94 : UInt8) :: (0x2b : UInt8) :: (0x2a : UInt8) :: (0x1d : UInt8) :: (0x04 : UInt8) :: (0x60 : UInt8) :: dT_L_law_31
def dT_L_law_29 : List UInt8 := (0x2a : UInt8) :: (0x1d : UInt8) :: (0x05 : UInt8) :: (0x60 : UInt8) :: (0x2e : UInt8) :: (0xb6 : UInt8) :: (0x00 : UInt8) :: (0x20 : UInt8) :: (0x57 : UInt8) :: (0x2c : UInt8) :: (0x2a : UInt8) :: (0x1d : UInt8) :: (0x04 : UInt8) :: (0x60 : UInt8) :: (0x2e : UInt8) :: (0x2a : UInt8) :: dT_L_law_30
def dT_L_law_28 : List UInt8 := (0x04 : UInt8) :: (0x60 : UInt8) :: (0x2e : UInt8) :: (0xb6 : UInt8) :: (0x00 : UInt8) :: (0x1f : UInt8) :: (0x57 : UInt8) :: (0xa7 : UInt8) :: (0x06 : UInt8) :: (0xb5 : UInt8) :: (0x2b : UInt8) :: (0x2a : UInt8) :: (0x1d : UInt8) :: (0x04 : UInt8) :: (0x60 : UInt8) :: (0x2e : UInt8) :: dT_L_law_29
def dT_L_law_27 : List UInt8 := (0xa7 : UInt8) :: (0x06 : UInt8) :: (0xcc : UInt8) :: (0x2b : UInt8) :: (0x2a : UInt8) :: (0x1d : UInt8) :: (0x04 : UInt8) :: (0x60 : UInt8) :: (0x2e : UInt8) :: (0xb6 : UInt8) :: (0x00 : UInt8) :: (0x1c : UInt8) :: (0x57 : UInt8) :: (0x2c : UInt8) :: (0x2a : UInt8) :: (0x1d : UInt8) :: dT_L_law_28
def dT_L_law_26 : List UInt8 := (0x00 : UInt8) :: (0x16 : UInt8) :: (0x57 : UInt8) :: (0xa7 : UInt8) :: (0x06 : UInt8) :: (0xd9 : UInt8) :: (0x2b : UInt8) :: (0xb6 : UInt8) :: (0x00 : UInt8) :: (0x17 : UInt8) :: (0x57 : UInt8) :: (0x2c : UInt8) :: (0xb6 : UInt8) :: (0x00 : UInt8) :: (0x1b : UInt8) :: (0x57 : UInt8) :: dT_L_law_27
def dT_L_law_25 : List UInt8 := (0x2a : UInt8) :: (0x1d : UInt8) :: (0x04 : UInt8) :: (0x60 : UInt8) :: (0x2e : UInt8) :: (0xb6 : UInt8) :: (0x00 : UInt8) :: (0x12 : UInt8) :: (0x57 : UInt8) :: (0x2c : UInt8) :: (0x2a : UInt8) :: (0x1d : UInt8) :: (0x04 : UInt8) :: (0x60 : UInt8) :: (0x2e : UInt8) :: (0xb6 : UInt8) :: dT_L_law_26
def dT_L_law_24 : List UInt8 := (0x07 : UInt8) :: (0x60 : UInt8) :: (0x2e : UInt8) :: (0x2a : UInt8) :: (0x1d : UInt8) :: (0x08 : UInt8) :: (0x60 : UInt8) :: (0x2e : UInt8) :: (0xb6 : UInt8) :: (0x00 : UInt8) :: (0x11 : UInt8) :: (0x57 : UInt8) :: (0xa7 : UInt8) :: (0x06 : UInt8) :: (0xf0 : UInt8) :: (0x2b : UInt8) :: dT_L_law_25
def dT_L_law_23 : List UInt8 := (0x1d : UInt8) :: (0x04 : UInt8) :: (0x60 : UInt8) :: (0x2e : UInt8) :: (0x2a : UInt8) :: (0x1d : UInt8) :: (0x05 : UInt8) :: (0x60 : UInt8) :: (0x2e : UInt8) :: (0x2a : UInt8) :: (0x1d : UInt8) :: (0x06 : UInt8) :: (0x60 : UInt8) :: (0x2e : UInt8) :: (0x2a : UInt8) :: (0x1d : UInt8) :: dT_L_law_24
def dT_L_law_22 : List UInt8 := (0x2a : UInt8) :: (0x1d : UInt8) :: (0x07 : UInt8) :: (0x60 : UInt8) :: (0x2e : UInt8) :: (0x2a : UInt8) :: (0x1d : UInt8) :: (0x08 : UInt8) :: (0x60 : UInt8) :: (0x2e : UInt8) :: (0xb6 : UInt8) :: (0x00 : UInt8) :: (0x0d : UInt8) :: (0x57 : UInt8) :: (0x2c : UInt8) :: (0x2a : UInt8) :: dT_L_law_23
def dT_L_law_21 : List UInt8 := (0x2b : UInt8) :: (0x2a : UInt8) :: (0x1d : UInt8) :: (0x04 : UInt8) :: (0x60 : UInt8) :: (0x2e : UInt8) :: (0x2a : UInt8) :: (0x1d : UInt8) :: (0x05 : UInt8) :: (0x60 : UInt8) :: (0x2e : UInt8) :: (0x2a : UInt8) :: (0x1d : UInt8) :: (0x06 : UInt8) :: (0x60 : UInt8) :: (0x2e : UInt8) :: dT_L_law_22
def dT_L_law_20 : List UInt8 := (0x00 : UInt8) :: (0x00 : UInt8) :: (0x07 : UInt8) :: (0x91 : UInt8) :: (0x00 : UInt8) :: (0x00 : UInt8) :: (0x07 : UInt8) :: (0xa8 : UInt8) :: (0x00 : UInt8) :: (0x00 : UInt8) :: (0x07 : UInt8) :: (0xd3 : UInt8) :: (0x00 : UInt8) :: (0x00 : UInt8) :: (0x08 : UInt8) :: (0x1c : UInt8) :: dT_L_law_21
def dT_L_law_19 : List UInt8 := (0x00 : UInt8) :: (0x00 : UInt8) :: (0x07 : UInt8) :: (0x17 : UInt8) :: (0x00 : UInt8) :: (0x00 : UInt8) :: (0x07 : UInt8) :: (0x42 : UInt8) :: (0x00 : UInt8) :: (0x00 : UInt8) :: (0x07 : UInt8) :: (0x63 : UInt8) :: (0x00 : UInt8) :: (0x00 : UInt8) :: (0x07 : UInt8) :: (0x7a : UInt8) :: dT_L_law_20
def dT_L_law_18 : List UInt8 := (0x00 : UInt8) :: (0x00 : UInt8) :: (0x06 : UInt8) :: (0xbb : UInt8) :: (0x00 : UInt8) :: (0x00 : UInt8) :: (0x06 : UInt8) :: (0xdc : UInt8) :: (0x00 : UInt8) :: (0x00 : UInt8) :: (0x06 : UInt8) :: (0xe9 : UInt8) :: (0x00 : UInt8) :: (0x00 : UInt8) :: (0x06 : UInt8) :: (0xf6 : UInt8) :: dT_L_law_19
def dT_L_law_17 : List UInt8 := (0x00 : UInt8) :: (0x00 : UInt8) :: (0x06 : UInt8) :: (0x23 : UInt8) :: (0x00 : UInt8) :: (0x00 : UInt8) :: (0x06 : UInt8) :: (0x4e : UInt8) :: (0x00 : UInt8) :: (0x00 : UInt8) :: (0x06 : UInt8) :: (0x79 : UInt8) :: (0x00 : UInt8) :: (0x00 : UInt8) :: (0x06 : UInt8) :: (0x9a : UInt8) :: dT_L_law_18
def dT_L_law_16 : List UInt8 := (0x00 : UInt8) :: (0x00 : UInt8) :: (0x05 : UInt8) :: (0xa9 : UInt8) :: (0x00 : UInt8) :: (0x00 : UInt8) :: (0x05 : UInt8) :: (0xca : UInt8) :: (0x00 : UInt8) :: (0x00 : UInt8) :: (0x05 : UInt8) :: (0xff : UInt8) :: (0x00 : UInt8) :: (0x00 : UInt8) :: (0x06 : UInt8) :: (0x16 : UInt8) :: dT_L_law_17
def dT_L_law_15 : List UInt8 := (0x00 : UInt8) :: (0x00 : UInt8) :: (0x05 : UInt8) :: (0x4d : UInt8) :: (0x00 : UInt8) :: (0x00 : UInt8) :: (0x05 : UInt8) :: (0x64 : UInt8) :: (0x00 : UInt8) :: (0x00 : UInt8) :: (0x05 : UInt8) :: (0x7b : UInt8) :: (0x00 : UInt8) :: (0x00 : UInt8) :: (0x05 : UInt8) :: (0x92 : UInt8) :: dT_L_law_16
def dT_L_law_14 : List UInt8 := (0x00 : UInt8) :: (0x00 : UInt8) :: (0x04 : UInt8) :: (0xf1 : UInt8) :: (0x00 : UInt8) :: (0x00 : UInt8) :: (0x05 : UInt8) :: (0x08 : UInt8) :: (0x00 : UInt8) :: (0x00 : UInt8) :: (0x05 : UInt8) :: (0x1f : UInt8) :: (0x00 : UInt8) :: (0x00 : UInt8) :: (0x05 : UInt8) :: (0x36 : UInt8) :: dT_L_law_15
def dT_L_law_13 : List UInt8 := (0x00 : UInt8) :: (0x00 : UInt8) :: (0x04 : UInt8) :: (0x95 : UInt8) :: (0x00 : UInt8) :: (0x00 : UInt8) :: (0x04 : UInt8) :: (0xac : UInt8) :: (0x00 : UInt8) :: (0x00 : UInt8) :: (0x04 : UInt8) :: (0xc3 : UInt8) :: (0x00 : UInt8) :: (0x00 : UInt8) :: (0x04 : UInt8) :: (0xda : UInt8) :: dT_L_law_14
def dT_L_law_12 : List UInt8 := (0x00 : UInt8) :: (0x00 : UInt8) :: (0x04 : UInt8) :: (0x57 : UInt8) :: (0x00 : UInt8) :: (0x00 : UInt8) :: (0x04 : UInt8) :: (0x64 : UInt8) :: (0x00 : UInt8) :: (0x00 : UInt8) :: (0x04 : UInt8) :: (0x71 : UInt8) :: (0x00 : UInt8) :: (0x00 : UInt8) :: (0x04 : UInt8) :: (0x88 : UInt8) :: dT_L_law_13
def dT_L_law_11 : List UInt8 := (0x00 : UInt8) :: (0x00 : UInt8) :: (0x04 : UInt8) :: (0x0f : UInt8) :: (0x00 : UInt8) :: (0x00 : UInt8) :: (0x04 : UInt8) :: (0x26 : UInt8) :: (0x00 : UInt8) :: (0x00 : UInt8) :: (0x04 : UInt8) :: (0x33 : UInt8) :: (0x00 : UInt8) :: (0x00 : UInt8) :: (0x04 : UInt8) :: (0x4a : UInt8) :: dT_L_law_12
def dT_L_law_10 : List UInt8 := (0x00 : UInt8) :: (0x00 : UInt8) :: (0x03 : UInt8) :: (0xbd : UInt8) :: (0x00 : UInt8) :: (0x00 : UInt8) :: (0x03 : UInt8) :: (0xca : UInt8) :: (0x00 : UInt8) :: (0x00 : UInt8) :: (0x03 : UInt8) :: (0xe1 : UInt8) :: (0x00 : UInt8) :: (0x00 : UInt8) :: (0x03 : UInt8) :: (0xf8 : UInt8) :: dT_L_law_11
def dT_L_law_9 : List UInt8 := (0x00 : UInt8) :: (0x00 : UInt8) :: (0x03 : UInt8) :: (0x6b : UInt8) :: (0x00 : UInt8) :: (0x00 : UInt8) :: (0x03 : UInt8) :: (0x82 : UInt8) :: (0x00 : UInt8) :: (0x00 : UInt8) :: (0x03 : UInt8) :: (0x8f : UInt8) :: (0x00 : UInt8) :: (0x00 : UInt8) :: (0x03 : UInt8) :: (0xa6 : UInt8) :: dT_L_law_10
def dT_L_law_8 : List UInt8 := (0x00 : UInt8) :: (0x00 : UInt8) :: (0x03 : UInt8) :: (0x0f : UInt8) :: (0x00 : UInt8) :: (0x00 : UInt8) :: (0x03 : UInt8) :: (0x30 : UInt8) :: (0x00 : UInt8) :: (0x00 : UInt8) :: (0x03 : UInt8) :: (0x47 : UInt8) :: (0x00 : UInt8) :: (0x00 : UInt8) :: (0x03 : UInt8) :: (0x54 : UInt8) :: dT_L_law_9
def dT_L_law_7 : List UInt8 := (0x00 : UInt8) :: (0x00 : UInt8) :: (0x02 : UInt8) :: (0xd1 : UInt8) :: (0x00 : UInt8) :: (0x00 : UInt8) :: (0x02 : UInt8) :: (0xde : UInt8) :: (0x00 : UInt8) :: (0x00 : UInt8) :: (0x02 : UInt8) :: (0xeb : UInt8) :: (0x00 : UInt8) :: (0x00 : UInt8) :: (0x02 : UInt8) :: (0xf8 : UInt8) :: dT_L_law_8
def dT_L_law_6 : List UInt8 := (0x00 : UInt8) :: (0x00 : UInt8) :: (0x02 : UInt8) :: (0x6b : UInt8) :: (0x00 : UInt8) :: (0x00 : UInt8) :: (0x02 : UInt8) :: (0x8c : UInt8) :: (0x00 : UInt8) :: (0x00 : UInt8) :: (0x02 : UInt8) :: (0xa3 : UInt8) :: (0x00 : UInt8) :: (0x00 : UInt8) :: (0x02 : UInt8) :: (0xba : UInt8) :: dT_L_law_7
def dT_L_law_5 : List UInt8 := (0x00 : UInt8) :: (0x00 : UInt8) :: (0x02 : UInt8) :: (0x19 : UInt8) :: (0x00 : UInt8) :: (0x00 : UInt8) :: (0x02 : UInt8) :: (0x30 : UInt8) :: (0x00 : UInt8) :: (0x00 : UInt8) :: (0x02 : UInt8) :: (0x47 : UInt8) :: (0x00 : UInt8) :: (0x00 : UInt8) :: (0x02 : UInt8) :: (0x54 : UInt8) :: dT_L_law_6
def dT_L_law_4 : List UInt8 := (0x00 : UInt8) :: (0x00 : UInt8) :: (0x01 : UInt8) :: (0xa9 : UInt8) :: (0x00 : UInt8) :: (0x00 : UInt8) :: (0x01 : UInt8) :: (0xca : UInt8) :: (0x00 : UInt8) :: (0x00 : UInt8) :: (0x01 : UInt8) :: (0xeb : UInt8) :: (0x00 : UInt8) :: (0x00 : UInt8) :: (0x02 : UInt8) :: (0x02 : UInt8) :: dT_L_law_5
def dT_L_law_3 : List UInt8 := (0x00 : UInt8) :: (0x00 : UInt8) :: (0x01 : UInt8) :: (0x2f : UInt8) :: (0x00 : UInt8) :: (0x00 : UInt8) :: (0x01 : UInt8) :: (0x6e : UInt8) :: (0x00 : UInt8) :: (0x00 : UInt8) :: (0x01 : UInt8) :: (0x85 : UInt8) :: (0x00 : UInt8) :: (0x00 : UInt8) :: (0x01 : UInt8) :: (0x92 : UInt8) :: dT_L_law_4
def dT_L_law_2 : List UInt8 := (0x7e : UInt8) :: (0xaa : UInt8) :: (0x00 : UInt8) :: (0x00 : UInt8) :: (0x00 : UInt8) :: (0x00 : UInt8) :: (0x08 : UInt8) :: (0x5b : UInt8) :: (0x00 : UInt8) :: (0x00 : UInt8) :: (0x00 : UInt8) :: (0x00 : UInt8) :: (0x00 : UInt8) :: (0x00 : UInt8) :: (0x00 : UInt8) :: (0x47 : UInt8) :: dT_L_law_3
def dT_L_law_1 : List UInt8 := (0x03 : UInt8) :: (0x3e : UInt8) :: (0x1d : UInt8) :: (0x2a : UInt8) :: (0xbe : UInt8) :: (0x10 : UInt8) :: (0x06 : UInt8) :: (0x64 : UInt8) :: (0xa3 : UInt8) :: (0x08 : UInt8) :: (0x6a : UInt8) :: (0x2a : UInt8) :: (0x1d : UInt8) :: (0x2e : UInt8) :: (0x10 : UInt8) :: (0x7f : UInt8) :: dT_L_law_2
def dT_L_law_0 : List UInt8 := (0xbb : UInt8) :: (0x00 : UInt8) :: (0x07 : UInt8) :: (0x59 : UInt8) :: (0xb7 : UInt8) :: (0x00 : UInt8) :: (0x09 : UInt8) :: (0x4c : UInt8) :: (0xbb : UInt8) :: (0x00 : UInt8) :: (0x0a : UInt8) :: (0x59 : UInt8) :: (0xb7 : UInt8) :: (0x00 : UInt8) :: (0x0c : UInt8) :: (0x4d : UInt8) :: dT_L_law_1
theorem dT_L_law : cL_law.data.toList = dT_L_law_0 := eq_of_beq (show (cL_law.data.toList == dT_L_law_0) = true by decide +kernel)
theorem dQ_L_law_0 (i : Nat) : cL_law.data.toList[i + 0]? = dT_L_law_0[i]? := by rw [dT_L_law]; rfl
theorem dQ_L_law_1 (i : Nat) : cL_law.data.toList[i + 16]? = dT_L_law_1[i]? := (dQ_L_law_0 (i + 16)).trans dk_t
theorem dQ_L_law_2 (i : Nat) : cL_law.data.toList[i + 32]? = dT_L_law_2[i]? := (dQ_L_law_1 (i + 16)).trans dk_t
theorem dQ_L_law_3 (i : Nat) : cL_law.data.toList[i + 48]? = dT_L_law_3[i]? := (dQ_L_law_2 (i + 16)).trans dk_t
theorem dQ_L_law_4 (i : Nat) : cL_law.data.toList[i + 64]? = dT_L_law_4[i]? := (dQ_L_law_3 (i + 16)).trans dk_t
theorem dQ_L_law_5 (i : Nat) : cL_law.data.toList[i + 80]? = dT_L_law_5[i]? := (dQ_L_law_4 (i + 16)).trans dk_t
theorem dQ_L_law_6 (i : Nat) : cL_law.data.toList[i + 96]? = dT_L_law_6[i]? := (dQ_L_law_5 (i + 16)).trans dk_t
theorem dQ_L_law_7 (i : Nat) : cL_law.data.toList[i + 112]? = dT_L_law_7[i]? := (dQ_L_law_6 (i + 16)).trans dk_t
theorem dQ_L_law_8 (i : Nat) : cL_law.data.toList[i + 128]? = dT_L_law_8[i]? := (dQ_L_law_7 (i + 16)).trans dk_t
theorem dQ_L_law_9 (i : Nat) : cL_law.data.toList[i + 144]? = dT_L_law_9[i]? := (dQ_L_law_8 (i + 16)).trans dk_t
theorem dQ_L_law_10 (i : Nat) : cL_law.data.toList[i + 160]? = dT_L_law_10[i]? := (dQ_L_law_9 (i + 16)).trans dk_t
theorem dQ_L_law_11 (i : Nat) : cL_law.data.toList[i + 176]? = dT_L_law_11[i]? := (dQ_L_law_10 (i + 16)).trans dk_t
theorem dQ_L_law_12 (i : Nat) : cL_law.data.toList[i + 192]? = dT_L_law_12[i]? := (dQ_L_law_11 (i + 16)).trans dk_t
theorem dQ_L_law_13 (i : Nat) : cL_law.data.toList[i + 208]? = dT_L_law_13[i]? := (dQ_L_law_12 (i + 16)).trans dk_t
theorem dQ_L_law_14 (i : Nat) : cL_law.data.toList[i + 224]? = dT_L_law_14[i]? := (dQ_L_law_13 (i + 16)).trans dk_t
theorem dQ_L_law_15 (i : Nat) : cL_law.data.toList[i + 240]? = dT_L_law_15[i]? := (dQ_L_law_14 (i + 16)).trans dk_t
theorem dQ_L_law_16 (i : Nat) : cL_law.data.toList[i + 256]? = dT_L_law_16[i]? := (dQ_L_law_15 (i + 16)).trans dk_t
theorem dQ_L_law_17 (i : Nat) : cL_law.data.toList[i + 272]? = dT_L_law_17[i]? := (dQ_L_law_16 (i + 16)).trans dk_t
theorem dQ_L_law_18 (i : Nat) : cL_law.data.toList[i + 288]? = dT_L_law_18[i]? := (dQ_L_law_17 (i + 16)).trans dk_t
theorem dQ_L_law_19 (i : Nat) : cL_law.data.toList[i + 304]? = dT_L_law_19[i]? := (dQ_L_law_18 (i + 16)).trans dk_t
theorem dQ_L_law_20 (i : Nat) : cL_law.data.toList[i + 320]? = dT_L_law_20[i]? := (dQ_L_law_19 (i + 16)).trans dk_t
theorem dQ_L_law_21 (i : Nat) : cL_law.data.toList[i + 336]? = dT_L_law_21[i]? := (dQ_L_law_20 (i + 16)).trans dk_t
theorem dQ_L_law_22 (i : Nat) : cL_law.data.toList[i + 352]? = dT_L_law_22[i]? := (dQ_L_law_21 (i + 16)).trans dk_t
theorem dQ_L_law_23 (i : Nat) : cL_law.data.toList[i + 368]? = dT_L_law_23[i]? := (dQ_L_law_22 (i + 16)).trans dk_t
theorem dQ_L_law_24 (i : Nat) : cL_law.data.toList[i + 384]? = dT_L_law_24[i]? := (dQ_L_law_23 (i + 16)).trans dk_t
theorem dQ_L_law_25 (i : Nat) : cL_law.data.toList[i + 400]? = dT_L_law_25[i]? := (dQ_L_law_24 (i + 16)).trans dk_t
theorem dQ_L_law_26 (i : Nat) : cL_law.data.toList[i + 416]? = dT_L_law_26[i]? := (dQ_L_law_25 (i + 16)).trans dk_t
theorem dQ_L_law_27 (i : Nat) : cL_law.data.toList[i + 432]? = dT_L_law_27[i]? := (dQ_L_law_26 (i + 16)).trans dk_t
theorem dQ_L_law_28 (i : Nat) : cL_law.data.toList[i + 448]? = dT_L_law_28[i]? := (dQ_L_law_27 (i + 16)).trans dk_t
theorem dQ_L_law_29 (i : Nat) : cL_law.data.toList[i + 464]? = dT_L_law_29[i]? := (dQ_L_law_28 (i + 16)).trans dk_t
theorem dQ_L_law_30 (i : Nat) : cL_law.data.toList[i + 480]? = dT_L_law_30[i]? := (dQ_L_law_29 (i + 16)).trans dk_t
theorem dQ_L_law_31 (i : Nat) : cL_law.data.toList[i + 496]? = dT_L_law_31[i]? := (dQ_L_law_30 (i + 16)).trans dk_t
theorem dQ_L_law_32 (i : Nat) : cL_law.data.toList[i + 512]? = dT_L_law_32[i]? := (dQ_L_law_31 (i + 16)).trans dk_t
theorem dQ_L_law_33 (i : Nat) : cL_law.data.toList[i + 528]? = dT_L_law_33[i]? := (dQ_L_law_32 (i + 16)).trans dk_t
theorem dQ_L_law_34 (i : Nat) : cL_law.data.toList[i + 544]? = dT_L_law_34[i]? := (dQ_L_law_33 (i + 16)).trans dk_t
theorem dQ_L_law_35 (i : Nat) : cL_law.data.toList[i + 560]? = dT_L_law_35[i]? := (dQ_L_law_34 (i + 16)).trans dk_t
theorem dQ_L_law_36 (i : Nat) : cL_law.data.toList[i + 576]? = dT_L_law_36[i]? := (dQ_L_law_35 (i + 16)).trans dk_t
theorem dQ_L_law_37 (i : Nat) : cL_law.data.toList[i + 592]? = dT_L_law_37[i]? := (dQ_L_law_36 (i + 16)).trans dk_t
theorem dQ_L_law_38 (i : Nat) : cL_law.data.toList[i + 608]? = dT_L_law_38[i]? := (dQ_L_law_37 (i + 16)).trans dk_t
theorem dQ_L_law_39 (i : Nat) : cL_law.data.toList[i + 624]? = dT_L_law_39[i]? := (dQ_L_law_38 (i + 16)).trans dk_t
theorem dQ_L_law_40 (i : Nat) : cL_law.data.toList[i + 640]? = dT_L_law_40[i]? := (dQ_L_law_39 (i + 16)).trans dk_t
theorem dQ_L_law_41 (i : Nat) : cL_law.data.toList[i + 656]? = dT_L_law_41[i]? := (dQ_L_law_40 (i + 16)).trans dk_t
theorem dQ_L_law_42 (i : Nat) : cL_law.data.toList[i + 672]? = dT_L_law_42[i]? := (dQ_L_law_41 (i + 16)).trans dk_t
theorem dQ_L_law_43 (i : Nat) : cL_law.data.toList[i + 688]? = dT_L_law_43[i]? := (dQ_L_law_42 (i + 16)).trans dk_t
theorem dQ_L_law_44 (i : Nat) : cL_law.data.toList[i + 704]? = dT_L_law_44[i]? := (dQ_L_law_43 (i + 16)).trans dk_t
theorem dQ_L_law_45 (i : Nat) : cL_law.data.toList[i + 720]? = dT_L_law_45[i]? := (dQ_L_law_44 (i + 16)).trans dk_t
theorem dQ_L_law_46 (i : Nat) : cL_law.data.toList[i + 736]? = dT_L_law_46[i]? := (dQ_L_law_45 (i + 16)).trans dk_t
theorem dQ_L_law_47 (i : Nat) : cL_law.data.toList[i + 752]? = dT_L_law_47[i]? := (dQ_L_law_46 (i + 16)).trans dk_t
theorem dQ_L_law_48 (i : Nat) : cL_law.data.toList[i + 768]? = dT_L_law_48[i]? := (dQ_L_law_47 (i + 16)).trans dk_t
theorem dQ_L_law_49 (i : Nat) : cL_law.data.toList[i + 784]? = dT_L_law_49[i]? := (dQ_L_law_48 (i + 16)).trans dk_t
theorem dQ_L_law_50 (i : Nat) : cL_law.data.toList[i + 800]? = dT_L_law_50[i]? := (dQ_L_law_49 (i + 16)).trans dk_t
theorem dQ_L_law_51 (i : Nat) : cL_law.data.toList[i + 816]? = dT_L_law_51[i]? := (dQ_L_law_50 (i + 16)).trans dk_t
theorem dQ_L_law_52 (i : Nat) : cL_law.data.toList[i + 832]? = dT_L_law_52[i]? := (dQ_L_law_51 (i + 16)).trans dk_t
theorem dQ_L_law_53 (i : Nat) : cL_law.data.toList[i + 848]? = dT_L_law_53[i]? := (dQ_L_law_52 (i + 16)).trans dk_t
theorem dQ_L_law_54 (i : Nat) : cL_law.data.toList[i + 864]? = dT_L_law_54[i]? := (dQ_L_law_53 (i + 16)).trans dk_t
theorem dQ_L_law_55 (i : Nat) : cL_law.data.toList[i + 880]? = dT_L_law_55[i]? := (dQ_L_law_54 (i + 16)).trans dk_t
theorem dQ_L_law_56 (i : Nat) : cL_law.data.toList[i + 896]? = dT_L_law_56[i]? := (dQ_L_law_55 (i + 16)).trans dk_t
theorem dQ_L_law_57 (i : Nat) : cL_law.data.toList[i + 912]? = dT_L_law_57[i]? := (dQ_L_law_56 (i + 16)).trans dk_t
theorem dQ_L_law_58 (i : Nat) : cL_law.data.toList[i + 928]? = dT_L_law_58[i]? := (dQ_L_law_57 (i + 16)).trans dk_t
theorem dQ_L_law_59 (i : Nat) : cL_law.data.toList[i + 944]? = dT_L_law_59[i]? := (dQ_L_law_58 (i + 16)).trans dk_t
theorem dQ_L_law_60 (i : Nat) : cL_law.data.toList[i + 960]? = dT_L_law_60[i]? := (dQ_L_law_59 (i + 16)).trans dk_t
theorem dQ_L_law_61 (i : Nat) : cL_law.data.toList[i + 976]? = dT_L_law_61[i]? := (dQ_L_law_60 (i + 16)).trans dk_t
theorem dQ_L_law_62 (i : Nat) : cL_law.data.toList[i + 992]? = dT_L_law_62[i]? := (dQ_L_law_61 (i + 16)).trans dk_t
theorem dQ_L_law_63 (i : Nat) : cL_law.data.toList[i + 1008]? = dT_L_law_63[i]? := (dQ_L_law_62 (i + 16)).trans dk_t
theorem dQ_L_law_64 (i : Nat) : cL_law.data.toList[i + 1024]? = dT_L_law_64[i]? := (dQ_L_law_63 (i + 16)).trans dk_t
theorem dQ_L_law_65 (i : Nat) : cL_law.data.toList[i + 1040]? = dT_L_law_65[i]? := (dQ_L_law_64 (i + 16)).trans dk_t
theorem dQ_L_law_66 (i : Nat) : cL_law.data.toList[i + 1056]? = dT_L_law_66[i]? := (dQ_L_law_65 (i + 16)).trans dk_t
theorem dQ_L_law_67 (i : Nat) : cL_law.data.toList[i + 1072]? = dT_L_law_67[i]? := (dQ_L_law_66 (i + 16)).trans dk_t
theorem dQ_L_law_68 (i : Nat) : cL_law.data.toList[i + 1088]? = dT_L_law_68[i]? := (dQ_L_law_67 (i + 16)).trans dk_t
theorem dQ_L_law_69 (i : Nat) : cL_law.data.toList[i + 1104]? = dT_L_law_69[i]? := (dQ_L_law_68 (i + 16)).trans dk_t
theorem dQ_L_law_70 (i : Nat) : cL_law.data.toList[i + 1120]? = dT_L_law_70[i]? := (dQ_L_law_69 (i + 16)).trans dk_t
theorem dQ_L_law_71 (i : Nat) : cL_law.data.toList[i + 1136]? = dT_L_law_71[i]? := (dQ_L_law_70 (i + 16)).trans dk_t
theorem dQ_L_law_72 (i : Nat) : cL_law.data.toList[i + 1152]? = dT_L_law_72[i]? := (dQ_L_law_71 (i + 16)).trans dk_t
theorem dQ_L_law_73 (i : Nat) : cL_law.data.toList[i + 1168]? = dT_L_law_73[i]? := (dQ_L_law_72 (i + 16)).trans dk_t
theorem dQ_L_law_74 (i : Nat) : cL_law.data.toList[i + 1184]? = dT_L_law_74[i]? := (dQ_L_law_73 (i + 16)).trans dk_t
theorem dQ_L_law_75 (i : Nat) : cL_law.data.toList[i + 1200]? = dT_L_law_75[i]? := (dQ_L_law_74 (i + 16)).trans dk_t
theorem dQ_L_law_76 (i : Nat) : cL_law.data.toList[i + 1216]? = dT_L_law_76[i]? := (dQ_L_law_75 (i + 16)).trans dk_t
theorem dQ_L_law_77 (i : Nat) : cL_law.data.toList[i + 1232]? = dT_L_law_77[i]? := (dQ_L_law_76 (i + 16)).trans dk_t
theorem dQ_L_law_78 (i : Nat) : cL_law.data.toList[i + 1248]? = dT_L_law_78[i]? := (dQ_L_law_77 (i + 16)).trans dk_t
theorem dQ_L_law_79 (i : Nat) : cL_law.data.toList[i + 1264]? = dT_L_law_79[i]? := (dQ_L_law_78 (i + 16)).trans dk_t
theorem dQ_L_law_80 (i : Nat) : cL_law.data.toList[i + 1280]? = dT_L_law_80[i]? := (dQ_L_law_79 (i + 16)).trans dk_t
theorem dQ_L_law_81 (i : Nat) : cL_law.data.toList[i + 1296]? = dT_L_law_81[i]? := (dQ_L_law_80 (i + 16)).trans dk_t
theorem dQ_L_law_82 (i : Nat) : cL_law.data.toList[i + 1312]? = dT_L_law_82[i]? := (dQ_L_law_81 (i + 16)).trans dk_t
theorem dQ_L_law_83 (i : Nat) : cL_law.data.toList[i + 1328]? = dT_L_law_83[i]? := (dQ_L_law_82 (i + 16)).trans dk_t
theorem dQ_L_law_84 (i : Nat) : cL_law.data.toList[i + 1344]? = dT_L_law_84[i]? := (dQ_L_law_83 (i + 16)).trans dk_t
theorem dQ_L_law_85 (i : Nat) : cL_law.data.toList[i + 1360]? = dT_L_law_85[i]? := (dQ_L_law_84 (i + 16)).trans dk_t
theorem dQ_L_law_86 (i : Nat) : cL_law.data.toList[i + 1376]? = dT_L_law_86[i]? := (dQ_L_law_85 (i + 16)).trans dk_t
theorem dQ_L_law_87 (i : Nat) : cL_law.data.toList[i + 1392]? = dT_L_law_87[i]? := (dQ_L_law_86 (i + 16)).trans dk_t
theorem dQ_L_law_88 (i : Nat) : cL_law.data.toList[i + 1408]? = dT_L_law_88[i]? := (dQ_L_law_87 (i + 16)).trans dk_t
theorem dQ_L_law_89 (i : Nat) : cL_law.data.toList[i + 1424]? = dT_L_law_89[i]? := (dQ_L_law_88 (i + 16)).trans dk_t
theorem dQ_L_law_90 (i : Nat) : cL_law.data.toList[i + 1440]? = dT_L_law_90[i]? := (dQ_L_law_89 (i + 16)).trans dk_t
theorem dQ_L_law_91 (i : Nat) : cL_law.data.toList[i + 1456]? = dT_L_law_91[i]? := (dQ_L_law_90 (i + 16)).trans dk_t
theorem dQ_L_law_92 (i : Nat) : cL_law.data.toList[i + 1472]? = dT_L_law_92[i]? := (dQ_L_law_91 (i + 16)).trans dk_t
theorem dQ_L_law_93 (i : Nat) : cL_law.data.toList[i + 1488]? = dT_L_law_93[i]? := (dQ_L_law_92 (i + 16)).trans dk_t
theorem dQ_L_law_94 (i : Nat) : cL_law.data.toList[i + 1504]? = dT_L_law_94[i]? := (dQ_L_law_93 (i + 16)).trans dk_t
theorem dQ_L_law_95 (i : Nat) : cL_law.data.toList[i + 1520]? = dT_L_law_95[i]? := (dQ_L_law_94 (i + 16)).trans dk_t
theorem dQ_L_law_96 (i : Nat) : cL_law.data.toList[i + 1536]? = dT_L_law_96[i]? := (dQ_L_law_95 (i + 16)).trans dk_t
theorem dQ_L_law_97 (i : Nat) : cL_law.data.toList[i + 1552]? = dT_L_law_97[i]? := (dQ_L_law_96 (i + 16)).trans dk_t
theorem dQ_L_law_98 (i : Nat) : cL_law.data.toList[i + 1568]? = dT_L_law_98[i]? := (dQ_L_law_97 (i + 16)).trans dk_t
theorem dQ_L_law_99 (i : Nat) : cL_law.data.toList[i + 1584]? = dT_L_law_99[i]? := (dQ_L_law_98 (i + 16)).trans dk_t
theorem dQ_L_law_100 (i : Nat) : cL_law.data.toList[i + 1600]? = dT_L_law_100[i]? := (dQ_L_law_99 (i + 16)).trans dk_t
theorem dQ_L_law_101 (i : Nat) : cL_law.data.toList[i + 1616]? = dT_L_law_101[i]? := (dQ_L_law_100 (i + 16)).trans dk_t
theorem dQ_L_law_102 (i : Nat) : cL_law.data.toList[i + 1632]? = dT_L_law_102[i]? := (dQ_L_law_101 (i + 16)).trans dk_t
theorem dQ_L_law_103 (i : Nat) : cL_law.data.toList[i + 1648]? = dT_L_law_103[i]? := (dQ_L_law_102 (i + 16)).trans dk_t
theorem dQ_L_law_104 (i : Nat) : cL_law.data.toList[i + 1664]? = dT_L_law_104[i]? := (dQ_L_law_103 (i + 16)).trans dk_t
theorem dQ_L_law_105 (i : Nat) : cL_law.data.toList[i + 1680]? = dT_L_law_105[i]? := (dQ_L_law_104 (i + 16)).trans dk_t
theorem dQ_L_law_106 (i : Nat) : cL_law.data.toList[i + 1696]? = dT_L_law_106[i]? := (dQ_L_law_105 (i + 16)).trans dk_t
theorem dQ_L_law_107 (i : Nat) : cL_law.data.toList[i + 1712]? = dT_L_law_107[i]? := (dQ_L_law_106 (i + 16)).trans dk_t
theorem dQ_L_law_108 (i : Nat) : cL_law.data.toList[i + 1728]? = dT_L_law_108[i]? := (dQ_L_law_107 (i + 16)).trans dk_t
theorem dQ_L_law_109 (i : Nat) : cL_law.data.toList[i + 1744]? = dT_L_law_109[i]? := (dQ_L_law_108 (i + 16)).trans dk_t
theorem dQ_L_law_110 (i : Nat) : cL_law.data.toList[i + 1760]? = dT_L_law_110[i]? := (dQ_L_law_109 (i + 16)).trans dk_t
theorem dQ_L_law_111 (i : Nat) : cL_law.data.toList[i + 1776]? = dT_L_law_111[i]? := (dQ_L_law_110 (i + 16)).trans dk_t
theorem dQ_L_law_112 (i : Nat) : cL_law.data.toList[i + 1792]? = dT_L_law_112[i]? := (dQ_L_law_111 (i + 16)).trans dk_t
theorem dQ_L_law_113 (i : Nat) : cL_law.data.toList[i + 1808]? = dT_L_law_113[i]? := (dQ_L_law_112 (i + 16)).trans dk_t
theorem dQ_L_law_114 (i : Nat) : cL_law.data.toList[i + 1824]? = dT_L_law_114[i]? := (dQ_L_law_113 (i + 16)).trans dk_t
theorem dQ_L_law_115 (i : Nat) : cL_law.data.toList[i + 1840]? = dT_L_law_115[i]? := (dQ_L_law_114 (i + 16)).trans dk_t
theorem dQ_L_law_116 (i : Nat) : cL_law.data.toList[i + 1856]? = dT_L_law_116[i]? := (dQ_L_law_115 (i + 16)).trans dk_t
theorem dQ_L_law_117 (i : Nat) : cL_law.data.toList[i + 1872]? = dT_L_law_117[i]? := (dQ_L_law_116 (i + 16)).trans dk_t
theorem dQ_L_law_118 (i : Nat) : cL_law.data.toList[i + 1888]? = dT_L_law_118[i]? := (dQ_L_law_117 (i + 16)).trans dk_t
theorem dQ_L_law_119 (i : Nat) : cL_law.data.toList[i + 1904]? = dT_L_law_119[i]? := (dQ_L_law_118 (i + 16)).trans dk_t
theorem dQ_L_law_120 (i : Nat) : cL_law.data.toList[i + 1920]? = dT_L_law_120[i]? := (dQ_L_law_119 (i + 16)).trans dk_t
theorem dQ_L_law_121 (i : Nat) : cL_law.data.toList[i + 1936]? = dT_L_law_121[i]? := (dQ_L_law_120 (i + 16)).trans dk_t
theorem dQ_L_law_122 (i : Nat) : cL_law.data.toList[i + 1952]? = dT_L_law_122[i]? := (dQ_L_law_121 (i + 16)).trans dk_t
theorem dQ_L_law_123 (i : Nat) : cL_law.data.toList[i + 1968]? = dT_L_law_123[i]? := (dQ_L_law_122 (i + 16)).trans dk_t
theorem dQ_L_law_124 (i : Nat) : cL_law.data.toList[i + 1984]? = dT_L_law_124[i]? := (dQ_L_law_123 (i + 16)).trans dk_t
theorem dQ_L_law_125 (i : Nat) : cL_law.data.toList[i + 2000]? = dT_L_law_125[i]? := (dQ_L_law_124 (i + 16)).trans dk_t
theorem dQ_L_law_126 (i : Nat) : cL_law.data.toList[i + 2016]? = dT_L_law_126[i]? := (dQ_L_law_125 (i + 16)).trans dk_t
theorem dQ_L_law_127 (i : Nat) : cL_law.data.toList[i + 2032]? = dT_L_law_127[i]? := (dQ_L_law_126 (i + 16)).trans dk_t
theorem dQ_L_law_128 (i : Nat) : cL_law.data.toList[i + 2048]? = dT_L_law_128[i]? := (dQ_L_law_127 (i + 16)).trans dk_t
theorem dQ_L_law_129 (i : Nat) : cL_law.data.toList[i + 2064]? = dT_L_law_129[i]? := (dQ_L_law_128 (i + 16)).trans dk_t
theorem dQ_L_law_130 (i : Nat) : cL_law.data.toList[i + 2080]? = dT_L_law_130[i]? := (dQ_L_law_129 (i + 16)).trans dk_t
theorem dQ_L_law_131 (i : Nat) : cL_law.data.toList[i + 2096]? = dT_L_law_131[i]? := (dQ_L_law_130 (i + 16)).trans dk_t
theorem dQ_L_law_132 (i : Nat) : cL_law.data.toList[i + 2112]? = dT_L_law_132[i]? := (dQ_L_law_131 (i + 16)).trans dk_t
theorem dQ_L_law_133 (i : Nat) : cL_law.data.toList[i + 2128]? = dT_L_law_133[i]? := (dQ_L_law_132 (i + 16)).trans dk_t
theorem dQ_L_law_134 (i : Nat) : cL_law.data.toList[i + 2144]? = dT_L_law_134[i]? := (dQ_L_law_133 (i + 16)).trans dk_t
theorem dQ_L_law_135 (i : Nat) : cL_law.data.toList[i + 2160]? = dT_L_law_135[i]? := (dQ_L_law_134 (i + 16)).trans dk_t
theorem dQ_L_law_136 (i : Nat) : cL_law.data.toList[i + 2176]? = dT_L_law_136[i]? := (dQ_L_law_135 (i + 16)).trans dk_t
theorem dL_law_0 : decode cL_law 0 = .ok (.new 7, 3) := dk_187 ((dQ_L_law_0 0).trans dk_j0) ((dQ_L_law_0 1).trans dk_j1) ((dQ_L_law_0 2).trans dk_j2) dk_vu2_0_7
theorem dL_law_3 : decode cL_law 3 = .ok (.dup, 1) := dk_89 ((dQ_L_law_0 3).trans dk_j3)
theorem dL_law_4 : decode cL_law 4 = .ok (.invokespecial 9, 3) := dk_183 ((dQ_L_law_0 4).trans dk_j4) ((dQ_L_law_0 5).trans dk_j5) ((dQ_L_law_0 6).trans dk_j6) dk_vu2_0_9
theorem dL_law_7 : decode cL_law 7 = .ok (.astore_n 1, 1) := dk_76 ((dQ_L_law_0 7).trans dk_j7)
theorem dL_law_8 : decode cL_law 8 = .ok (.new 10, 3) := dk_187 ((dQ_L_law_0 8).trans dk_j8) ((dQ_L_law_0 9).trans dk_j9) ((dQ_L_law_0 10).trans dk_j10) dk_vu2_0_10
theorem dL_law_11 : decode cL_law 11 = .ok (.dup, 1) := dk_89 ((dQ_L_law_0 11).trans dk_j11)
theorem dk_vu2_0_12 : (0x00 : UInt8).toNat * 256 + (0x0c : UInt8).toNat = (12 : Nat) := by decide +kernel
theorem dL_law_12 : decode cL_law 12 = .ok (.invokespecial 12, 3) := dk_183 ((dQ_L_law_0 12).trans dk_j12) ((dQ_L_law_0 13).trans dk_j13) ((dQ_L_law_0 14).trans dk_j14) dk_vu2_0_12
theorem dL_law_15 : decode cL_law 15 = .ok (.astore_n 2, 1) := dk_77 ((dQ_L_law_0 15).trans dk_j15)
theorem dL_law_16 : decode cL_law 16 = .ok (.iconst 0, 1) := dk_3 ((dQ_L_law_1 0).trans dk_j0)
theorem dL_law_17 : decode cL_law 17 = .ok (.istore_n 3, 1) := dk_62 ((dQ_L_law_1 1).trans dk_j1)
theorem dL_law_18 : decode cL_law 18 = .ok (.iload_n 3, 1) := dk_29 ((dQ_L_law_1 2).trans dk_j2)
theorem dL_law_19 : decode cL_law 19 = .ok (.aload_n 0, 1) := dk_42 ((dQ_L_law_1 3).trans dk_j3)
theorem dL_law_20 : decode cL_law 20 = .ok (.arraylength, 1) := dk_190 ((dQ_L_law_1 4).trans dk_j4)
theorem dL_law_21 : decode cL_law 21 = .ok (.bipush 6, 2) := dk_16 ((dQ_L_law_1 5).trans dk_j5) ((dQ_L_law_1 6).trans dk_j6) dk_vs1_6
theorem dL_law_23 : decode cL_law 23 = .ok (.isub, 1) := dk_100 ((dQ_L_law_1 7).trans dk_j7)
theorem dk_vs2_8_106 : Reader.signed 16 ((0x08 : UInt8).toNat * 256 + (0x6a : UInt8).toNat) = (2154 : Int) := by decide +kernel
theorem dL_law_24 : decode cL_law 24 = .ok (.if_icmp .gt 2154, 3) := dk_163 ((dQ_L_law_1 8).trans dk_j8) ((dQ_L_law_1 9).trans dk_j9) ((dQ_L_law_1 10).trans dk_j10) dk_vs2_8_106
theorem dL_law_27 : decode cL_law 27 = .ok (.aload_n 0, 1) := dk_42 ((dQ_L_law_1 11).trans dk_j11)
theorem dL_law_28 : decode cL_law 28 = .ok (.iload_n 3, 1) := dk_29 ((dQ_L_law_1 12).trans dk_j12)
theorem dL_law_29 : decode cL_law 29 = .ok (.iaload, 1) := dk_46 ((dQ_L_law_1 13).trans dk_j13)
theorem dk_vs1_127 : Reader.signed 8 (0x7f : UInt8).toNat = (127 : Int) := by decide +kernel
theorem dL_law_30 : decode cL_law 30 = .ok (.bipush 127, 2) := dk_16 ((dQ_L_law_1 14).trans dk_j14) ((dQ_L_law_1 15).trans dk_j15) dk_vs1_127
theorem dL_law_32 : decode cL_law 32 = .ok (.iand, 1) := dk_126 ((dQ_L_law_2 0).trans dk_j0)
theorem dL_law_33 : decode cL_law 33 = .ok (.tableswitch 2139 0 71 #[303, 366, 389, 402, 425, 458, 491, 514, 537, 560, 583, 596, 619, 652, 675, 698, 721, 734, 747, 760, 783, 816, 839, 852, 875, 898, 911, 934, 957, 970, 993, 1016, 1039, 1062, 1075, 1098, 1111, 1124, 1137, 1160, 1173, 1196, 1219, 1242, 1265, 1288, 1311, 1334, 1357, 1380, 1403, 1426, 1449, 1482, 1535, 1558, 1571, 1614, 1657, 1690, 1723, 1756, 1769, 1782, 1815, 1858, 1891, 1914, 1937, 1960, 2003, 2076], 303) := by decide +kernel
theorem dL_law_336 : decode cL_law 336 = .ok (.aload_n 1, 1) := dk_43 ((dQ_L_law_21 0).trans dk_j0)
theorem dL_law_337 : decode cL_law 337 = .ok (.aload_n 0, 1) := dk_42 ((dQ_L_law_21 1).trans dk_j1)
theorem dL_law_338 : decode cL_law 338 = .ok (.iload_n 3, 1) := dk_29 ((dQ_L_law_21 2).trans dk_j2)
theorem dL_law_339 : decode cL_law 339 = .ok (.iconst 1, 1) := dk_4 ((dQ_L_law_21 3).trans dk_j3)
theorem dL_law_340 : decode cL_law 340 = .ok (.iadd, 1) := dk_96 ((dQ_L_law_21 4).trans dk_j4)
theorem dL_law_341 : decode cL_law 341 = .ok (.iaload, 1) := dk_46 ((dQ_L_law_21 5).trans dk_j5)
theorem dL_law_342 : decode cL_law 342 = .ok (.aload_n 0, 1) := dk_42 ((dQ_L_law_21 6).trans dk_j6)
theorem dL_law_343 : decode cL_law 343 = .ok (.iload_n 3, 1) := dk_29 ((dQ_L_law_21 7).trans dk_j7)
theorem dL_law_344 : decode cL_law 344 = .ok (.iconst 2, 1) := dk_5 ((dQ_L_law_21 8).trans dk_j8)
theorem dL_law_345 : decode cL_law 345 = .ok (.iadd, 1) := dk_96 ((dQ_L_law_21 9).trans dk_j9)
theorem dL_law_346 : decode cL_law 346 = .ok (.iaload, 1) := dk_46 ((dQ_L_law_21 10).trans dk_j10)
theorem dL_law_347 : decode cL_law 347 = .ok (.aload_n 0, 1) := dk_42 ((dQ_L_law_21 11).trans dk_j11)
theorem dL_law_348 : decode cL_law 348 = .ok (.iload_n 3, 1) := dk_29 ((dQ_L_law_21 12).trans dk_j12)
theorem dL_law_349 : decode cL_law 349 = .ok (.iconst 3, 1) := dk_6 ((dQ_L_law_21 13).trans dk_j13)
theorem dL_law_350 : decode cL_law 350 = .ok (.iadd, 1) := dk_96 ((dQ_L_law_21 14).trans dk_j14)
theorem dL_law_351 : decode cL_law 351 = .ok (.iaload, 1) := dk_46 ((dQ_L_law_21 15).trans dk_j15)
theorem dL_law_352 : decode cL_law 352 = .ok (.aload_n 0, 1) := dk_42 ((dQ_L_law_22 0).trans dk_j0)
theorem dL_law_353 : decode cL_law 353 = .ok (.iload_n 3, 1) := dk_29 ((dQ_L_law_22 1).trans dk_j1)
theorem dL_law_354 : decode cL_law 354 = .ok (.iconst 4, 1) := dk_7 ((dQ_L_law_22 2).trans dk_j2)
theorem dL_law_355 : decode cL_law 355 = .ok (.iadd, 1) := dk_96 ((dQ_L_law_22 3).trans dk_j3)
theorem dL_law_356 : decode cL_law 356 = .ok (.iaload, 1) := dk_46 ((dQ_L_law_22 4).trans dk_j4)
theorem dL_law_357 : decode cL_law 357 = .ok (.aload_n 0, 1) := dk_42 ((dQ_L_law_22 5).trans dk_j5)
theorem dL_law_358 : decode cL_law 358 = .ok (.iload_n 3, 1) := dk_29 ((dQ_L_law_22 6).trans dk_j6)
theorem dL_law_359 : decode cL_law 359 = .ok (.iconst 5, 1) := dk_8 ((dQ_L_law_22 7).trans dk_j7)
theorem dL_law_360 : decode cL_law 360 = .ok (.iadd, 1) := dk_96 ((dQ_L_law_22 8).trans dk_j8)
theorem dL_law_361 : decode cL_law 361 = .ok (.iaload, 1) := dk_46 ((dQ_L_law_22 9).trans dk_j9)
theorem dL_law_362 : decode cL_law 362 = .ok (.invokevirtual 13, 3) := dk_182 ((dQ_L_law_22 10).trans dk_j10) ((dQ_L_law_22 11).trans dk_j11) ((dQ_L_law_22 12).trans dk_j12) dk_vu2_0_13
theorem dL_law_365 : decode cL_law 365 = .ok (.pop, 1) := dk_87 ((dQ_L_law_22 13).trans dk_j13)
theorem dL_law_366 : decode cL_law 366 = .ok (.aload_n 2, 1) := dk_44 ((dQ_L_law_22 14).trans dk_j14)
theorem dL_law_367 : decode cL_law 367 = .ok (.aload_n 0, 1) := dk_42 ((dQ_L_law_22 15).trans dk_j15)
theorem dL_law_368 : decode cL_law 368 = .ok (.iload_n 3, 1) := dk_29 ((dQ_L_law_23 0).trans dk_j0)
theorem dL_law_369 : decode cL_law 369 = .ok (.iconst 1, 1) := dk_4 ((dQ_L_law_23 1).trans dk_j1)
theorem dL_law_370 : decode cL_law 370 = .ok (.iadd, 1) := dk_96 ((dQ_L_law_23 2).trans dk_j2)
theorem dL_law_371 : decode cL_law 371 = .ok (.iaload, 1) := dk_46 ((dQ_L_law_23 3).trans dk_j3)
theorem dL_law_372 : decode cL_law 372 = .ok (.aload_n 0, 1) := dk_42 ((dQ_L_law_23 4).trans dk_j4)
theorem dL_law_373 : decode cL_law 373 = .ok (.iload_n 3, 1) := dk_29 ((dQ_L_law_23 5).trans dk_j5)
theorem dL_law_374 : decode cL_law 374 = .ok (.iconst 2, 1) := dk_5 ((dQ_L_law_23 6).trans dk_j6)
theorem dL_law_375 : decode cL_law 375 = .ok (.iadd, 1) := dk_96 ((dQ_L_law_23 7).trans dk_j7)
theorem dL_law_376 : decode cL_law 376 = .ok (.iaload, 1) := dk_46 ((dQ_L_law_23 8).trans dk_j8)
theorem dL_law_377 : decode cL_law 377 = .ok (.aload_n 0, 1) := dk_42 ((dQ_L_law_23 9).trans dk_j9)
theorem dL_law_378 : decode cL_law 378 = .ok (.iload_n 3, 1) := dk_29 ((dQ_L_law_23 10).trans dk_j10)
theorem dL_law_379 : decode cL_law 379 = .ok (.iconst 3, 1) := dk_6 ((dQ_L_law_23 11).trans dk_j11)
theorem dL_law_380 : decode cL_law 380 = .ok (.iadd, 1) := dk_96 ((dQ_L_law_23 12).trans dk_j12)
theorem dL_law_381 : decode cL_law 381 = .ok (.iaload, 1) := dk_46 ((dQ_L_law_23 13).trans dk_j13)
theorem dL_law_382 : decode cL_law 382 = .ok (.aload_n 0, 1) := dk_42 ((dQ_L_law_23 14).trans dk_j14)
theorem dL_law_383 : decode cL_law 383 = .ok (.iload_n 3, 1) := dk_29 ((dQ_L_law_23 15).trans dk_j15)
theorem dL_law_384 : decode cL_law 384 = .ok (.iconst 4, 1) := dk_7 ((dQ_L_law_24 0).trans dk_j0)
theorem dL_law_385 : decode cL_law 385 = .ok (.iadd, 1) := dk_96 ((dQ_L_law_24 1).trans dk_j1)
theorem dL_law_386 : decode cL_law 386 = .ok (.iaload, 1) := dk_46 ((dQ_L_law_24 2).trans dk_j2)
theorem dL_law_387 : decode cL_law 387 = .ok (.aload_n 0, 1) := dk_42 ((dQ_L_law_24 3).trans dk_j3)
theorem dL_law_388 : decode cL_law 388 = .ok (.iload_n 3, 1) := dk_29 ((dQ_L_law_24 4).trans dk_j4)
theorem dL_law_389 : decode cL_law 389 = .ok (.iconst 5, 1) := dk_8 ((dQ_L_law_24 5).trans dk_j5)
theorem dL_law_390 : decode cL_law 390 = .ok (.iadd, 1) := dk_96 ((dQ_L_law_24 6).trans dk_j6)
theorem dL_law_391 : decode cL_law 391 = .ok (.iaload, 1) := dk_46 ((dQ_L_law_24 7).trans dk_j7)
theorem dL_law_392 : decode cL_law 392 = .ok (.invokevirtual 17, 3) := dk_182 ((dQ_L_law_24 8).trans dk_j8) ((dQ_L_law_24 9).trans dk_j9) ((dQ_L_law_24 10).trans dk_j10) dk_vu2_0_17
theorem dL_law_395 : decode cL_law 395 = .ok (.pop, 1) := dk_87 ((dQ_L_law_24 11).trans dk_j11)
theorem dk_vs2_6_240 : Reader.signed 16 ((0x06 : UInt8).toNat * 256 + (0xf0 : UInt8).toNat) = (1776 : Int) := by decide +kernel
theorem dL_law_396 : decode cL_law 396 = .ok (.goto 1776, 3) := dk_167 ((dQ_L_law_24 12).trans dk_j12) ((dQ_L_law_24 13).trans dk_j13) ((dQ_L_law_24 14).trans dk_j14) dk_vs2_6_240
theorem dL_law_399 : decode cL_law 399 = .ok (.aload_n 1, 1) := dk_43 ((dQ_L_law_24 15).trans dk_j15)
theorem dL_law_400 : decode cL_law 400 = .ok (.aload_n 0, 1) := dk_42 ((dQ_L_law_25 0).trans dk_j0)
theorem dL_law_401 : decode cL_law 401 = .ok (.iload_n 3, 1) := dk_29 ((dQ_L_law_25 1).trans dk_j1)
theorem dL_law_402 : decode cL_law 402 = .ok (.iconst 1, 1) := dk_4 ((dQ_L_law_25 2).trans dk_j2)
theorem dL_law_403 : decode cL_law 403 = .ok (.iadd, 1) := dk_96 ((dQ_L_law_25 3).trans dk_j3)
theorem dL_law_404 : decode cL_law 404 = .ok (.iaload, 1) := dk_46 ((dQ_L_law_25 4).trans dk_j4)
theorem dL_law_405 : decode cL_law 405 = .ok (.invokevirtual 18, 3) := dk_182 ((dQ_L_law_25 5).trans dk_j5) ((dQ_L_law_25 6).trans dk_j6) ((dQ_L_law_25 7).trans dk_j7) dk_vu2_0_18
theorem dL_law_408 : decode cL_law 408 = .ok (.pop, 1) := dk_87 ((dQ_L_law_25 8).trans dk_j8)
theorem dL_law_409 : decode cL_law 409 = .ok (.aload_n 2, 1) := dk_44 ((dQ_L_law_25 9).trans dk_j9)
theorem dL_law_410 : decode cL_law 410 = .ok (.aload_n 0, 1) := dk_42 ((dQ_L_law_25 10).trans dk_j10)
theorem dL_law_411 : decode cL_law 411 = .ok (.iload_n 3, 1) := dk_29 ((dQ_L_law_25 11).trans dk_j11)
theorem dL_law_412 : decode cL_law 412 = .ok (.iconst 1, 1) := dk_4 ((dQ_L_law_25 12).trans dk_j12)
theorem dL_law_413 : decode cL_law 413 = .ok (.iadd, 1) := dk_96 ((dQ_L_law_25 13).trans dk_j13)
theorem dL_law_414 : decode cL_law 414 = .ok (.iaload, 1) := dk_46 ((dQ_L_law_25 14).trans dk_j14)
theorem dL_law_415 : decode cL_law 415 = .ok (.invokevirtual 22, 3) := dk_182 ((dQ_L_law_25 15).trans dk_j15) ((dQ_L_law_26 0).trans dk_j0) ((dQ_L_law_26 1).trans dk_j1) dk_vu2_0_22
theorem dL_law_418 : decode cL_law 418 = .ok (.pop, 1) := dk_87 ((dQ_L_law_26 2).trans dk_j2)
theorem dk_vs2_6_217 : Reader.signed 16 ((0x06 : UInt8).toNat * 256 + (0xd9 : UInt8).toNat) = (1753 : Int) := by decide +kernel
theorem dL_law_419 : decode cL_law 419 = .ok (.goto 1753, 3) := dk_167 ((dQ_L_law_26 3).trans dk_j3) ((dQ_L_law_26 4).trans dk_j4) ((dQ_L_law_26 5).trans dk_j5) dk_vs2_6_217
theorem dL_law_422 : decode cL_law 422 = .ok (.aload_n 1, 1) := dk_43 ((dQ_L_law_26 6).trans dk_j6)
theorem dL_law_423 : decode cL_law 423 = .ok (.invokevirtual 23, 3) := dk_182 ((dQ_L_law_26 7).trans dk_j7) ((dQ_L_law_26 8).trans dk_j8) ((dQ_L_law_26 9).trans dk_j9) dk_vu2_0_23
theorem dL_law_426 : decode cL_law 426 = .ok (.pop, 1) := dk_87 ((dQ_L_law_26 10).trans dk_j10)
theorem dL_law_427 : decode cL_law 427 = .ok (.aload_n 2, 1) := dk_44 ((dQ_L_law_26 11).trans dk_j11)
theorem dL_law_428 : decode cL_law 428 = .ok (.invokevirtual 27, 3) := dk_182 ((dQ_L_law_26 12).trans dk_j12) ((dQ_L_law_26 13).trans dk_j13) ((dQ_L_law_26 14).trans dk_j14) dk_vu2_0_27
theorem dL_law_431 : decode cL_law 431 = .ok (.pop, 1) := dk_87 ((dQ_L_law_26 15).trans dk_j15)
theorem dk_vs2_6_204 : Reader.signed 16 ((0x06 : UInt8).toNat * 256 + (0xcc : UInt8).toNat) = (1740 : Int) := by decide +kernel
theorem dL_law_432 : decode cL_law 432 = .ok (.goto 1740, 3) := dk_167 ((dQ_L_law_27 0).trans dk_j0) ((dQ_L_law_27 1).trans dk_j1) ((dQ_L_law_27 2).trans dk_j2) dk_vs2_6_204
theorem dL_law_435 : decode cL_law 435 = .ok (.aload_n 1, 1) := dk_43 ((dQ_L_law_27 3).trans dk_j3)
theorem dL_law_436 : decode cL_law 436 = .ok (.aload_n 0, 1) := dk_42 ((dQ_L_law_27 4).trans dk_j4)
theorem dL_law_437 : decode cL_law 437 = .ok (.iload_n 3, 1) := dk_29 ((dQ_L_law_27 5).trans dk_j5)
theorem dL_law_438 : decode cL_law 438 = .ok (.iconst 1, 1) := dk_4 ((dQ_L_law_27 6).trans dk_j6)
theorem dL_law_439 : decode cL_law 439 = .ok (.iadd, 1) := dk_96 ((dQ_L_law_27 7).trans dk_j7)
theorem dL_law_440 : decode cL_law 440 = .ok (.iaload, 1) := dk_46 ((dQ_L_law_27 8).trans dk_j8)
theorem dL_law_441 : decode cL_law 441 = .ok (.invokevirtual 28, 3) := dk_182 ((dQ_L_law_27 9).trans dk_j9) ((dQ_L_law_27 10).trans dk_j10) ((dQ_L_law_27 11).trans dk_j11) dk_vu2_0_28
theorem dL_law_444 : decode cL_law 444 = .ok (.pop, 1) := dk_87 ((dQ_L_law_27 12).trans dk_j12)
theorem dL_law_445 : decode cL_law 445 = .ok (.aload_n 2, 1) := dk_44 ((dQ_L_law_27 13).trans dk_j13)
theorem dL_law_446 : decode cL_law 446 = .ok (.aload_n 0, 1) := dk_42 ((dQ_L_law_27 14).trans dk_j14)
theorem dL_law_447 : decode cL_law 447 = .ok (.iload_n 3, 1) := dk_29 ((dQ_L_law_27 15).trans dk_j15)
theorem dL_law_448 : decode cL_law 448 = .ok (.iconst 1, 1) := dk_4 ((dQ_L_law_28 0).trans dk_j0)
theorem dL_law_449 : decode cL_law 449 = .ok (.iadd, 1) := dk_96 ((dQ_L_law_28 1).trans dk_j1)
theorem dL_law_450 : decode cL_law 450 = .ok (.iaload, 1) := dk_46 ((dQ_L_law_28 2).trans dk_j2)
theorem dL_law_451 : decode cL_law 451 = .ok (.invokevirtual 31, 3) := dk_182 ((dQ_L_law_28 3).trans dk_j3) ((dQ_L_law_28 4).trans dk_j4) ((dQ_L_law_28 5).trans dk_j5) dk_vu2_0_31
theorem dL_law_454 : decode cL_law 454 = .ok (.pop, 1) := dk_87 ((dQ_L_law_28 6).trans dk_j6)
theorem dk_vs2_6_181 : Reader.signed 16 ((0x06 : UInt8).toNat * 256 + (0xb5 : UInt8).toNat) = (1717 : Int) := by decide +kernel
theorem dL_law_455 : decode cL_law 455 = .ok (.goto 1717, 3) := dk_167 ((dQ_L_law_28 7).trans dk_j7) ((dQ_L_law_28 8).trans dk_j8) ((dQ_L_law_28 9).trans dk_j9) dk_vs2_6_181
theorem dL_law_458 : decode cL_law 458 = .ok (.aload_n 1, 1) := dk_43 ((dQ_L_law_28 10).trans dk_j10)
theorem dL_law_459 : decode cL_law 459 = .ok (.aload_n 0, 1) := dk_42 ((dQ_L_law_28 11).trans dk_j11)
theorem dL_law_460 : decode cL_law 460 = .ok (.iload_n 3, 1) := dk_29 ((dQ_L_law_28 12).trans dk_j12)
theorem dL_law_461 : decode cL_law 461 = .ok (.iconst 1, 1) := dk_4 ((dQ_L_law_28 13).trans dk_j13)
theorem dL_law_462 : decode cL_law 462 = .ok (.iadd, 1) := dk_96 ((dQ_L_law_28 14).trans dk_j14)
theorem dL_law_463 : decode cL_law 463 = .ok (.iaload, 1) := dk_46 ((dQ_L_law_28 15).trans dk_j15)
theorem dL_law_464 : decode cL_law 464 = .ok (.aload_n 0, 1) := dk_42 ((dQ_L_law_29 0).trans dk_j0)
theorem dL_law_465 : decode cL_law 465 = .ok (.iload_n 3, 1) := dk_29 ((dQ_L_law_29 1).trans dk_j1)
theorem dL_law_466 : decode cL_law 466 = .ok (.iconst 2, 1) := dk_5 ((dQ_L_law_29 2).trans dk_j2)
theorem dL_law_467 : decode cL_law 467 = .ok (.iadd, 1) := dk_96 ((dQ_L_law_29 3).trans dk_j3)
theorem dL_law_468 : decode cL_law 468 = .ok (.iaload, 1) := dk_46 ((dQ_L_law_29 4).trans dk_j4)
theorem dL_law_469 : decode cL_law 469 = .ok (.invokevirtual 32, 3) := dk_182 ((dQ_L_law_29 5).trans dk_j5) ((dQ_L_law_29 6).trans dk_j6) ((dQ_L_law_29 7).trans dk_j7) dk_vu2_0_32
theorem dL_law_472 : decode cL_law 472 = .ok (.pop, 1) := dk_87 ((dQ_L_law_29 8).trans dk_j8)
theorem dL_law_473 : decode cL_law 473 = .ok (.aload_n 2, 1) := dk_44 ((dQ_L_law_29 9).trans dk_j9)
theorem dL_law_474 : decode cL_law 474 = .ok (.aload_n 0, 1) := dk_42 ((dQ_L_law_29 10).trans dk_j10)
theorem dL_law_475 : decode cL_law 475 = .ok (.iload_n 3, 1) := dk_29 ((dQ_L_law_29 11).trans dk_j11)
theorem dL_law_476 : decode cL_law 476 = .ok (.iconst 1, 1) := dk_4 ((dQ_L_law_29 12).trans dk_j12)
theorem dL_law_477 : decode cL_law 477 = .ok (.iadd, 1) := dk_96 ((dQ_L_law_29 13).trans dk_j13)
theorem dL_law_478 : decode cL_law 478 = .ok (.iaload, 1) := dk_46 ((dQ_L_law_29 14).trans dk_j14)
theorem dL_law_479 : decode cL_law 479 = .ok (.aload_n 0, 1) := dk_42 ((dQ_L_law_29 15).trans dk_j15)
theorem dL_law_480 : decode cL_law 480 = .ok (.iload_n 3, 1) := dk_29 ((dQ_L_law_30 0).trans dk_j0)
theorem dL_law_481 : decode cL_law 481 = .ok (.iconst 2, 1) := dk_5 ((dQ_L_law_30 1).trans dk_j1)
theorem dL_law_482 : decode cL_law 482 = .ok (.iadd, 1) := dk_96 ((dQ_L_law_30 2).trans dk_j2)
theorem dL_law_483 : decode cL_law 483 = .ok (.iaload, 1) := dk_46 ((dQ_L_law_30 3).trans dk_j3)
theorem dL_law_484 : decode cL_law 484 = .ok (.invokevirtual 36, 3) := dk_182 ((dQ_L_law_30 4).trans dk_j4) ((dQ_L_law_30 5).trans dk_j5) ((dQ_L_law_30 6).trans dk_j6) dk_vu2_0_36
theorem dL_law_487 : decode cL_law 487 = .ok (.pop, 1) := dk_87 ((dQ_L_law_30 7).trans dk_j7)
theorem dk_vs2_6_148 : Reader.signed 16 ((0x06 : UInt8).toNat * 256 + (0x94 : UInt8).toNat) = (1684 : Int) := by decide +kernel
theorem dL_law_488 : decode cL_law 488 = .ok (.goto 1684, 3) := dk_167 ((dQ_L_law_30 8).trans dk_j8) ((dQ_L_law_30 9).trans dk_j9) ((dQ_L_law_30 10).trans dk_j10) dk_vs2_6_148
theorem dL_law_491 : decode cL_law 491 = .ok (.aload_n 1, 1) := dk_43 ((dQ_L_law_30 11).trans dk_j11)
theorem dL_law_492 : decode cL_law 492 = .ok (.aload_n 0, 1) := dk_42 ((dQ_L_law_30 12).trans dk_j12)
theorem dL_law_493 : decode cL_law 493 = .ok (.iload_n 3, 1) := dk_29 ((dQ_L_law_30 13).trans dk_j13)
theorem dL_law_494 : decode cL_law 494 = .ok (.iconst 1, 1) := dk_4 ((dQ_L_law_30 14).trans dk_j14)
theorem dL_law_495 : decode cL_law 495 = .ok (.iadd, 1) := dk_96 ((dQ_L_law_30 15).trans dk_j15)
theorem dL_law_496 : decode cL_law 496 = .ok (.iaload, 1) := dk_46 ((dQ_L_law_31 0).trans dk_j0)
theorem dL_law_497 : decode cL_law 497 = .ok (.aload_n 0, 1) := dk_42 ((dQ_L_law_31 1).trans dk_j1)
theorem dL_law_498 : decode cL_law 498 = .ok (.iload_n 3, 1) := dk_29 ((dQ_L_law_31 2).trans dk_j2)
theorem dL_law_499 : decode cL_law 499 = .ok (.iconst 2, 1) := dk_5 ((dQ_L_law_31 3).trans dk_j3)
theorem dL_law_500 : decode cL_law 500 = .ok (.iadd, 1) := dk_96 ((dQ_L_law_31 4).trans dk_j4)
theorem dL_law_501 : decode cL_law 501 = .ok (.iaload, 1) := dk_46 ((dQ_L_law_31 5).trans dk_j5)
theorem dL_law_502 : decode cL_law 502 = .ok (.invokevirtual 37, 3) := dk_182 ((dQ_L_law_31 6).trans dk_j6) ((dQ_L_law_31 7).trans dk_j7) ((dQ_L_law_31 8).trans dk_j8) dk_vu2_0_37
theorem dL_law_505 : decode cL_law 505 = .ok (.pop, 1) := dk_87 ((dQ_L_law_31 9).trans dk_j9)
theorem dL_law_506 : decode cL_law 506 = .ok (.aload_n 2, 1) := dk_44 ((dQ_L_law_31 10).trans dk_j10)
theorem dL_law_507 : decode cL_law 507 = .ok (.aload_n 0, 1) := dk_42 ((dQ_L_law_31 11).trans dk_j11)
theorem dL_law_508 : decode cL_law 508 = .ok (.iload_n 3, 1) := dk_29 ((dQ_L_law_31 12).trans dk_j12)
theorem dL_law_509 : decode cL_law 509 = .ok (.iconst 1, 1) := dk_4 ((dQ_L_law_31 13).trans dk_j13)
theorem dL_law_510 : decode cL_law 510 = .ok (.iadd, 1) := dk_96 ((dQ_L_law_31 14).trans dk_j14)
theorem dL_law_511 : decode cL_law 511 = .ok (.iaload, 1) := dk_46 ((dQ_L_law_31 15).trans dk_j15)
theorem dL_law_512 : decode cL_law 512 = .ok (.aload_n 0, 1) := dk_42 ((dQ_L_law_32 0).trans dk_j0)
theorem dL_law_513 : decode cL_law 513 = .ok (.iload_n 3, 1) := dk_29 ((dQ_L_law_32 1).trans dk_j1)
theorem dL_law_514 : decode cL_law 514 = .ok (.iconst 2, 1) := dk_5 ((dQ_L_law_32 2).trans dk_j2)
theorem dL_law_515 : decode cL_law 515 = .ok (.iadd, 1) := dk_96 ((dQ_L_law_32 3).trans dk_j3)
theorem dL_law_516 : decode cL_law 516 = .ok (.iaload, 1) := dk_46 ((dQ_L_law_32 4).trans dk_j4)
theorem dL_law_517 : decode cL_law 517 = .ok (.invokevirtual 40, 3) := dk_182 ((dQ_L_law_32 5).trans dk_j5) ((dQ_L_law_32 6).trans dk_j6) ((dQ_L_law_32 7).trans dk_j7) dk_vu2_0_40
theorem dL_law_520 : decode cL_law 520 = .ok (.pop, 1) := dk_87 ((dQ_L_law_32 8).trans dk_j8)
theorem dk_vs2_6_115 : Reader.signed 16 ((0x06 : UInt8).toNat * 256 + (0x73 : UInt8).toNat) = (1651 : Int) := by decide +kernel
theorem dL_law_521 : decode cL_law 521 = .ok (.goto 1651, 3) := dk_167 ((dQ_L_law_32 9).trans dk_j9) ((dQ_L_law_32 10).trans dk_j10) ((dQ_L_law_32 11).trans dk_j11) dk_vs2_6_115
theorem dL_law_524 : decode cL_law 524 = .ok (.aload_n 1, 1) := dk_43 ((dQ_L_law_32 12).trans dk_j12)
theorem dL_law_525 : decode cL_law 525 = .ok (.aload_n 0, 1) := dk_42 ((dQ_L_law_32 13).trans dk_j13)
theorem dL_law_526 : decode cL_law 526 = .ok (.iload_n 3, 1) := dk_29 ((dQ_L_law_32 14).trans dk_j14)
theorem dL_law_527 : decode cL_law 527 = .ok (.iconst 1, 1) := dk_4 ((dQ_L_law_32 15).trans dk_j15)
theorem dL_law_528 : decode cL_law 528 = .ok (.iadd, 1) := dk_96 ((dQ_L_law_33 0).trans dk_j0)
theorem dL_law_529 : decode cL_law 529 = .ok (.iaload, 1) := dk_46 ((dQ_L_law_33 1).trans dk_j1)
theorem dL_law_530 : decode cL_law 530 = .ok (.invokevirtual 41, 3) := dk_182 ((dQ_L_law_33 2).trans dk_j2) ((dQ_L_law_33 3).trans dk_j3) ((dQ_L_law_33 4).trans dk_j4) dk_vu2_0_41
theorem dL_law_533 : decode cL_law 533 = .ok (.pop, 1) := dk_87 ((dQ_L_law_33 5).trans dk_j5)
theorem dL_law_534 : decode cL_law 534 = .ok (.aload_n 2, 1) := dk_44 ((dQ_L_law_33 6).trans dk_j6)
theorem dL_law_535 : decode cL_law 535 = .ok (.aload_n 0, 1) := dk_42 ((dQ_L_law_33 7).trans dk_j7)
theorem dL_law_536 : decode cL_law 536 = .ok (.iload_n 3, 1) := dk_29 ((dQ_L_law_33 8).trans dk_j8)
theorem dL_law_537 : decode cL_law 537 = .ok (.iconst 1, 1) := dk_4 ((dQ_L_law_33 9).trans dk_j9)
theorem dL_law_538 : decode cL_law 538 = .ok (.iadd, 1) := dk_96 ((dQ_L_law_33 10).trans dk_j10)
theorem dL_law_539 : decode cL_law 539 = .ok (.iaload, 1) := dk_46 ((dQ_L_law_33 11).trans dk_j11)
theorem dL_law_540 : decode cL_law 540 = .ok (.invokevirtual 44, 3) := dk_182 ((dQ_L_law_33 12).trans dk_j12) ((dQ_L_law_33 13).trans dk_j13) ((dQ_L_law_33 14).trans dk_j14) dk_vu2_0_44
theorem dL_law_543 : decode cL_law 543 = .ok (.pop, 1) := dk_87 ((dQ_L_law_33 15).trans dk_j15)
theorem dk_vs2_6_92 : Reader.signed 16 ((0x06 : UInt8).toNat * 256 + (0x5c : UInt8).toNat) = (1628 : Int) := by decide +kernel
theorem dL_law_544 : decode cL_law 544 = .ok (.goto 1628, 3) := dk_167 ((dQ_L_law_34 0).trans dk_j0) ((dQ_L_law_34 1).trans dk_j1) ((dQ_L_law_34 2).trans dk_j2) dk_vs2_6_92
theorem dL_law_547 : decode cL_law 547 = .ok (.aload_n 1, 1) := dk_43 ((dQ_L_law_34 3).trans dk_j3)
theorem dL_law_548 : decode cL_law 548 = .ok (.aload_n 0, 1) := dk_42 ((dQ_L_law_34 4).trans dk_j4)
theorem dL_law_549 : decode cL_law 549 = .ok (.iload_n 3, 1) := dk_29 ((dQ_L_law_34 5).trans dk_j5)
theorem dL_law_550 : decode cL_law 550 = .ok (.iconst 1, 1) := dk_4 ((dQ_L_law_34 6).trans dk_j6)
theorem dL_law_551 : decode cL_law 551 = .ok (.iadd, 1) := dk_96 ((dQ_L_law_34 7).trans dk_j7)
theorem dL_law_552 : decode cL_law 552 = .ok (.iaload, 1) := dk_46 ((dQ_L_law_34 8).trans dk_j8)
theorem dL_law_553 : decode cL_law 553 = .ok (.invokevirtual 45, 3) := dk_182 ((dQ_L_law_34 9).trans dk_j9) ((dQ_L_law_34 10).trans dk_j10) ((dQ_L_law_34 11).trans dk_j11) dk_vu2_0_45
theorem dL_law_556 : decode cL_law 556 = .ok (.pop, 1) := dk_87 ((dQ_L_law_34 12).trans dk_j12)
theorem dL_law_557 : decode cL_law 557 = .ok (.aload_n 2, 1) := dk_44 ((dQ_L_law_34 13).trans dk_j13)
theorem dL_law_558 : decode cL_law 558 = .ok (.aload_n 0, 1) := dk_42 ((dQ_L_law_34 14).trans dk_j14)
theorem dL_law_559 : decode cL_law 559 = .ok (.iload_n 3, 1) := dk_29 ((dQ_L_law_34 15).trans dk_j15)
theorem dL_law_560 : decode cL_law 560 = .ok (.iconst 1, 1) := dk_4 ((dQ_L_law_35 0).trans dk_j0)
theorem dL_law_561 : decode cL_law 561 = .ok (.iadd, 1) := dk_96 ((dQ_L_law_35 1).trans dk_j1)
theorem dL_law_562 : decode cL_law 562 = .ok (.iaload, 1) := dk_46 ((dQ_L_law_35 2).trans dk_j2)
theorem dL_law_563 : decode cL_law 563 = .ok (.invokevirtual 48, 3) := dk_182 ((dQ_L_law_35 3).trans dk_j3) ((dQ_L_law_35 4).trans dk_j4) ((dQ_L_law_35 5).trans dk_j5) dk_vu2_0_48
theorem dL_law_566 : decode cL_law 566 = .ok (.pop, 1) := dk_87 ((dQ_L_law_35 6).trans dk_j6)
theorem dk_vs2_6_69 : Reader.signed 16 ((0x06 : UInt8).toNat * 256 + (0x45 : UInt8).toNat) = (1605 : Int) := by decide +kernel
theorem dL_law_567 : decode cL_law 567 = .ok (.goto 1605, 3) := dk_167 ((dQ_L_law_35 7).trans dk_j7) ((dQ_L_law_35 8).trans dk_j8) ((dQ_L_law_35 9).trans dk_j9) dk_vs2_6_69
theorem dL_law_570 : decode cL_law 570 = .ok (.aload_n 1, 1) := dk_43 ((dQ_L_law_35 10).trans dk_j10)
theorem dL_law_571 : decode cL_law 571 = .ok (.aload_n 0, 1) := dk_42 ((dQ_L_law_35 11).trans dk_j11)
theorem dL_law_572 : decode cL_law 572 = .ok (.iload_n 3, 1) := dk_29 ((dQ_L_law_35 12).trans dk_j12)
theorem dL_law_573 : decode cL_law 573 = .ok (.iconst 1, 1) := dk_4 ((dQ_L_law_35 13).trans dk_j13)
theorem dL_law_574 : decode cL_law 574 = .ok (.iadd, 1) := dk_96 ((dQ_L_law_35 14).trans dk_j14)
theorem dL_law_575 : decode cL_law 575 = .ok (.iaload, 1) := dk_46 ((dQ_L_law_35 15).trans dk_j15)
theorem dL_law_576 : decode cL_law 576 = .ok (.invokevirtual 49, 3) := dk_182 ((dQ_L_law_36 0).trans dk_j0) ((dQ_L_law_36 1).trans dk_j1) ((dQ_L_law_36 2).trans dk_j2) dk_vu2_0_49
theorem dL_law_579 : decode cL_law 579 = .ok (.pop, 1) := dk_87 ((dQ_L_law_36 3).trans dk_j3)
theorem dL_law_580 : decode cL_law 580 = .ok (.aload_n 2, 1) := dk_44 ((dQ_L_law_36 4).trans dk_j4)
theorem dL_law_581 : decode cL_law 581 = .ok (.aload_n 0, 1) := dk_42 ((dQ_L_law_36 5).trans dk_j5)
theorem dL_law_582 : decode cL_law 582 = .ok (.iload_n 3, 1) := dk_29 ((dQ_L_law_36 6).trans dk_j6)
theorem dL_law_583 : decode cL_law 583 = .ok (.iconst 1, 1) := dk_4 ((dQ_L_law_36 7).trans dk_j7)
theorem dL_law_584 : decode cL_law 584 = .ok (.iadd, 1) := dk_96 ((dQ_L_law_36 8).trans dk_j8)
theorem dL_law_585 : decode cL_law 585 = .ok (.iaload, 1) := dk_46 ((dQ_L_law_36 9).trans dk_j9)
theorem dL_law_586 : decode cL_law 586 = .ok (.invokevirtual 52, 3) := dk_182 ((dQ_L_law_36 10).trans dk_j10) ((dQ_L_law_36 11).trans dk_j11) ((dQ_L_law_36 12).trans dk_j12) dk_vu2_0_52
theorem dL_law_589 : decode cL_law 589 = .ok (.pop, 1) := dk_87 ((dQ_L_law_36 13).trans dk_j13)
theorem dk_vs2_6_46 : Reader.signed 16 ((0x06 : UInt8).toNat * 256 + (0x2e : UInt8).toNat) = (1582 : Int) := by decide +kernel
theorem dL_law_590 : decode cL_law 590 = .ok (.goto 1582, 3) := dk_167 ((dQ_L_law_36 14).trans dk_j14) ((dQ_L_law_36 15).trans dk_j15) ((dQ_L_law_37 0).trans dk_j0) dk_vs2_6_46
theorem dL_law_593 : decode cL_law 593 = .ok (.aload_n 1, 1) := dk_43 ((dQ_L_law_37 1).trans dk_j1)
theorem dL_law_594 : decode cL_law 594 = .ok (.aload_n 0, 1) := dk_42 ((dQ_L_law_37 2).trans dk_j2)
theorem dL_law_595 : decode cL_law 595 = .ok (.iload_n 3, 1) := dk_29 ((dQ_L_law_37 3).trans dk_j3)
theorem dL_law_596 : decode cL_law 596 = .ok (.iconst 1, 1) := dk_4 ((dQ_L_law_37 4).trans dk_j4)
theorem dL_law_597 : decode cL_law 597 = .ok (.iadd, 1) := dk_96 ((dQ_L_law_37 5).trans dk_j5)
theorem dL_law_598 : decode cL_law 598 = .ok (.iaload, 1) := dk_46 ((dQ_L_law_37 6).trans dk_j6)
theorem dL_law_599 : decode cL_law 599 = .ok (.invokevirtual 53, 3) := dk_182 ((dQ_L_law_37 7).trans dk_j7) ((dQ_L_law_37 8).trans dk_j8) ((dQ_L_law_37 9).trans dk_j9) dk_vu2_0_53
theorem dL_law_602 : decode cL_law 602 = .ok (.pop, 1) := dk_87 ((dQ_L_law_37 10).trans dk_j10)
theorem dL_law_603 : decode cL_law 603 = .ok (.aload_n 2, 1) := dk_44 ((dQ_L_law_37 11).trans dk_j11)
theorem dL_law_604 : decode cL_law 604 = .ok (.aload_n 0, 1) := dk_42 ((dQ_L_law_37 12).trans dk_j12)
theorem dL_law_605 : decode cL_law 605 = .ok (.iload_n 3, 1) := dk_29 ((dQ_L_law_37 13).trans dk_j13)
theorem dL_law_606 : decode cL_law 606 = .ok (.iconst 1, 1) := dk_4 ((dQ_L_law_37 14).trans dk_j14)
theorem dL_law_607 : decode cL_law 607 = .ok (.iadd, 1) := dk_96 ((dQ_L_law_37 15).trans dk_j15)
theorem dL_law_608 : decode cL_law 608 = .ok (.iaload, 1) := dk_46 ((dQ_L_law_38 0).trans dk_j0)
theorem dL_law_609 : decode cL_law 609 = .ok (.invokevirtual 56, 3) := dk_182 ((dQ_L_law_38 1).trans dk_j1) ((dQ_L_law_38 2).trans dk_j2) ((dQ_L_law_38 3).trans dk_j3) dk_vu2_0_56
theorem dL_law_612 : decode cL_law 612 = .ok (.pop, 1) := dk_87 ((dQ_L_law_38 4).trans dk_j4)
theorem dk_vs2_6_23 : Reader.signed 16 ((0x06 : UInt8).toNat * 256 + (0x17 : UInt8).toNat) = (1559 : Int) := by decide +kernel
theorem dL_law_613 : decode cL_law 613 = .ok (.goto 1559, 3) := dk_167 ((dQ_L_law_38 5).trans dk_j5) ((dQ_L_law_38 6).trans dk_j6) ((dQ_L_law_38 7).trans dk_j7) dk_vs2_6_23
theorem dL_law_616 : decode cL_law 616 = .ok (.aload_n 1, 1) := dk_43 ((dQ_L_law_38 8).trans dk_j8)
theorem dL_law_617 : decode cL_law 617 = .ok (.invokevirtual 57, 3) := dk_182 ((dQ_L_law_38 9).trans dk_j9) ((dQ_L_law_38 10).trans dk_j10) ((dQ_L_law_38 11).trans dk_j11) dk_vu2_0_57
theorem dL_law_620 : decode cL_law 620 = .ok (.pop, 1) := dk_87 ((dQ_L_law_38 12).trans dk_j12)
theorem dL_law_621 : decode cL_law 621 = .ok (.aload_n 2, 1) := dk_44 ((dQ_L_law_38 13).trans dk_j13)
theorem dL_law_622 : decode cL_law 622 = .ok (.invokevirtual 60, 3) := dk_182 ((dQ_L_law_38 14).trans dk_j14) ((dQ_L_law_38 15).trans dk_j15) ((dQ_L_law_39 0).trans dk_j0) dk_vu2_0_60
theorem dL_law_625 : decode cL_law 625 = .ok (.pop, 1) := dk_87 ((dQ_L_law_39 1).trans dk_j1)
theorem dk_vs2_6_10 : Reader.signed 16 ((0x06 : UInt8).toNat * 256 + (0x0a : UInt8).toNat) = (1546 : Int) := by decide +kernel
theorem dL_law_626 : decode cL_law 626 = .ok (.goto 1546, 3) := dk_167 ((dQ_L_law_39 2).trans dk_j2) ((dQ_L_law_39 3).trans dk_j3) ((dQ_L_law_39 4).trans dk_j4) dk_vs2_6_10
theorem dL_law_629 : decode cL_law 629 = .ok (.aload_n 1, 1) := dk_43 ((dQ_L_law_39 5).trans dk_j5)
theorem dL_law_630 : decode cL_law 630 = .ok (.aload_n 0, 1) := dk_42 ((dQ_L_law_39 6).trans dk_j6)
theorem dL_law_631 : decode cL_law 631 = .ok (.iload_n 3, 1) := dk_29 ((dQ_L_law_39 7).trans dk_j7)
theorem dL_law_632 : decode cL_law 632 = .ok (.iconst 1, 1) := dk_4 ((dQ_L_law_39 8).trans dk_j8)
theorem dL_law_633 : decode cL_law 633 = .ok (.iadd, 1) := dk_96 ((dQ_L_law_39 9).trans dk_j9)
theorem dL_law_634 : decode cL_law 634 = .ok (.iaload, 1) := dk_46 ((dQ_L_law_39 10).trans dk_j10)
theorem dL_law_635 : decode cL_law 635 = .ok (.invokevirtual 61, 3) := dk_182 ((dQ_L_law_39 11).trans dk_j11) ((dQ_L_law_39 12).trans dk_j12) ((dQ_L_law_39 13).trans dk_j13) dk_vu2_0_61
theorem dL_law_638 : decode cL_law 638 = .ok (.pop, 1) := dk_87 ((dQ_L_law_39 14).trans dk_j14)
theorem dL_law_639 : decode cL_law 639 = .ok (.aload_n 2, 1) := dk_44 ((dQ_L_law_39 15).trans dk_j15)
theorem dL_law_640 : decode cL_law 640 = .ok (.aload_n 0, 1) := dk_42 ((dQ_L_law_40 0).trans dk_j0)
theorem dL_law_641 : decode cL_law 641 = .ok (.iload_n 3, 1) := dk_29 ((dQ_L_law_40 1).trans dk_j1)
theorem dL_law_642 : decode cL_law 642 = .ok (.iconst 1, 1) := dk_4 ((dQ_L_law_40 2).trans dk_j2)
theorem dL_law_643 : decode cL_law 643 = .ok (.iadd, 1) := dk_96 ((dQ_L_law_40 3).trans dk_j3)
theorem dL_law_644 : decode cL_law 644 = .ok (.iaload, 1) := dk_46 ((dQ_L_law_40 4).trans dk_j4)
theorem dL_law_645 : decode cL_law 645 = .ok (.invokevirtual 64, 3) := dk_182 ((dQ_L_law_40 5).trans dk_j5) ((dQ_L_law_40 6).trans dk_j6) ((dQ_L_law_40 7).trans dk_j7) dk_vu2_0_64
theorem dL_law_648 : decode cL_law 648 = .ok (.pop, 1) := dk_87 ((dQ_L_law_40 8).trans dk_j8)
theorem dk_vs2_5_243 : Reader.signed 16 ((0x05 : UInt8).toNat * 256 + (0xf3 : UInt8).toNat) = (1523 : Int) := by decide +kernel
theorem dL_law_649 : decode cL_law 649 = .ok (.goto 1523, 3) := dk_167 ((dQ_L_law_40 9).trans dk_j9) ((dQ_L_law_40 10).trans dk_j10) ((dQ_L_law_40 11).trans dk_j11) dk_vs2_5_243
theorem dL_law_652 : decode cL_law 652 = .ok (.aload_n 1, 1) := dk_43 ((dQ_L_law_40 12).trans dk_j12)
theorem dL_law_653 : decode cL_law 653 = .ok (.aload_n 0, 1) := dk_42 ((dQ_L_law_40 13).trans dk_j13)
theorem dL_law_654 : decode cL_law 654 = .ok (.iload_n 3, 1) := dk_29 ((dQ_L_law_40 14).trans dk_j14)
theorem dL_law_655 : decode cL_law 655 = .ok (.iconst 1, 1) := dk_4 ((dQ_L_law_40 15).trans dk_j15)
theorem dL_law_656 : decode cL_law 656 = .ok (.iadd, 1) := dk_96 ((dQ_L_law_41 0).trans dk_j0)
theorem dL_law_657 : decode cL_law 657 = .ok (.iaload, 1) := dk_46 ((dQ_L_law_41 1).trans dk_j1)
theorem dL_law_658 : decode cL_law 658 = .ok (.aload_n 0, 1) := dk_42 ((dQ_L_law_41 2).trans dk_j2)
theorem dL_law_659 : decode cL_law 659 = .ok (.iload_n 3, 1) := dk_29 ((dQ_L_law_41 3).trans dk_j3)
theorem dL_law_660 : decode cL_law 660 = .ok (.iconst 2, 1) := dk_5 ((dQ_L_law_41 4).trans dk_j4)
theorem dL_law_661 : decode cL_law 661 = .ok (.iadd, 1) := dk_96 ((dQ_L_law_41 5).trans dk_j5)
theorem dL_law_662 : decode cL_law 662 = .ok (.iaload, 1) := dk_46 ((dQ_L_law_41 6).trans dk_j6)
theorem dL_law_663 : decode cL_law 663 = .ok (.invokevirtual 65, 3) := dk_182 ((dQ_L_law_41 7).trans dk_j7) ((dQ_L_law_41 8).trans dk_j8) ((dQ_L_law_41 9).trans dk_j9) dk_vu2_0_65
theorem dL_law_666 : decode cL_law 666 = .ok (.pop, 1) := dk_87 ((dQ_L_law_41 10).trans dk_j10)
theorem dL_law_667 : decode cL_law 667 = .ok (.aload_n 2, 1) := dk_44 ((dQ_L_law_41 11).trans dk_j11)
theorem dL_law_668 : decode cL_law 668 = .ok (.aload_n 0, 1) := dk_42 ((dQ_L_law_41 12).trans dk_j12)
theorem dL_law_669 : decode cL_law 669 = .ok (.iload_n 3, 1) := dk_29 ((dQ_L_law_41 13).trans dk_j13)
theorem dL_law_670 : decode cL_law 670 = .ok (.iconst 1, 1) := dk_4 ((dQ_L_law_41 14).trans dk_j14)
theorem dL_law_671 : decode cL_law 671 = .ok (.iadd, 1) := dk_96 ((dQ_L_law_41 15).trans dk_j15)
theorem dL_law_672 : decode cL_law 672 = .ok (.iaload, 1) := dk_46 ((dQ_L_law_42 0).trans dk_j0)
theorem dL_law_673 : decode cL_law 673 = .ok (.aload_n 0, 1) := dk_42 ((dQ_L_law_42 1).trans dk_j1)
theorem dL_law_674 : decode cL_law 674 = .ok (.iload_n 3, 1) := dk_29 ((dQ_L_law_42 2).trans dk_j2)
theorem dL_law_675 : decode cL_law 675 = .ok (.iconst 2, 1) := dk_5 ((dQ_L_law_42 3).trans dk_j3)
theorem dL_law_676 : decode cL_law 676 = .ok (.iadd, 1) := dk_96 ((dQ_L_law_42 4).trans dk_j4)
theorem dL_law_677 : decode cL_law 677 = .ok (.iaload, 1) := dk_46 ((dQ_L_law_42 5).trans dk_j5)
theorem dL_law_678 : decode cL_law 678 = .ok (.invokevirtual 68, 3) := dk_182 ((dQ_L_law_42 6).trans dk_j6) ((dQ_L_law_42 7).trans dk_j7) ((dQ_L_law_42 8).trans dk_j8) dk_vu2_0_68
theorem dL_law_681 : decode cL_law 681 = .ok (.pop, 1) := dk_87 ((dQ_L_law_42 9).trans dk_j9)
theorem dk_vs2_5_210 : Reader.signed 16 ((0x05 : UInt8).toNat * 256 + (0xd2 : UInt8).toNat) = (1490 : Int) := by decide +kernel
theorem dL_law_682 : decode cL_law 682 = .ok (.goto 1490, 3) := dk_167 ((dQ_L_law_42 10).trans dk_j10) ((dQ_L_law_42 11).trans dk_j11) ((dQ_L_law_42 12).trans dk_j12) dk_vs2_5_210
theorem dL_law_685 : decode cL_law 685 = .ok (.aload_n 1, 1) := dk_43 ((dQ_L_law_42 13).trans dk_j13)
theorem dL_law_686 : decode cL_law 686 = .ok (.aload_n 0, 1) := dk_42 ((dQ_L_law_42 14).trans dk_j14)
theorem dL_law_687 : decode cL_law 687 = .ok (.iload_n 3, 1) := dk_29 ((dQ_L_law_42 15).trans dk_j15)
theorem dL_law_688 : decode cL_law 688 = .ok (.iconst 1, 1) := dk_4 ((dQ_L_law_43 0).trans dk_j0)
theorem dL_law_689 : decode cL_law 689 = .ok (.iadd, 1) := dk_96 ((dQ_L_law_43 1).trans dk_j1)
theorem dL_law_690 : decode cL_law 690 = .ok (.iaload, 1) := dk_46 ((dQ_L_law_43 2).trans dk_j2)
theorem dk_vu2_0_69 : (0x00 : UInt8).toNat * 256 + (0x45 : UInt8).toNat = (69 : Nat) := by decide +kernel
theorem dL_law_691 : decode cL_law 691 = .ok (.invokevirtual 69, 3) := dk_182 ((dQ_L_law_43 3).trans dk_j3) ((dQ_L_law_43 4).trans dk_j4) ((dQ_L_law_43 5).trans dk_j5) dk_vu2_0_69
theorem dL_law_694 : decode cL_law 694 = .ok (.pop, 1) := dk_87 ((dQ_L_law_43 6).trans dk_j6)
theorem dL_law_695 : decode cL_law 695 = .ok (.aload_n 2, 1) := dk_44 ((dQ_L_law_43 7).trans dk_j7)
theorem dL_law_696 : decode cL_law 696 = .ok (.aload_n 0, 1) := dk_42 ((dQ_L_law_43 8).trans dk_j8)
theorem dL_law_697 : decode cL_law 697 = .ok (.iload_n 3, 1) := dk_29 ((dQ_L_law_43 9).trans dk_j9)
theorem dL_law_698 : decode cL_law 698 = .ok (.iconst 1, 1) := dk_4 ((dQ_L_law_43 10).trans dk_j10)
theorem dL_law_699 : decode cL_law 699 = .ok (.iadd, 1) := dk_96 ((dQ_L_law_43 11).trans dk_j11)
theorem dL_law_700 : decode cL_law 700 = .ok (.iaload, 1) := dk_46 ((dQ_L_law_43 12).trans dk_j12)
theorem dL_law_701 : decode cL_law 701 = .ok (.invokevirtual 72, 3) := dk_182 ((dQ_L_law_43 13).trans dk_j13) ((dQ_L_law_43 14).trans dk_j14) ((dQ_L_law_43 15).trans dk_j15) dk_vu2_0_72
theorem dL_law_704 : decode cL_law 704 = .ok (.pop, 1) := dk_87 ((dQ_L_law_44 0).trans dk_j0)
theorem dk_vs2_5_187 : Reader.signed 16 ((0x05 : UInt8).toNat * 256 + (0xbb : UInt8).toNat) = (1467 : Int) := by decide +kernel
theorem dL_law_705 : decode cL_law 705 = .ok (.goto 1467, 3) := dk_167 ((dQ_L_law_44 1).trans dk_j1) ((dQ_L_law_44 2).trans dk_j2) ((dQ_L_law_44 3).trans dk_j3) dk_vs2_5_187
theorem dL_law_708 : decode cL_law 708 = .ok (.aload_n 1, 1) := dk_43 ((dQ_L_law_44 4).trans dk_j4)
theorem dL_law_709 : decode cL_law 709 = .ok (.aload_n 0, 1) := dk_42 ((dQ_L_law_44 5).trans dk_j5)
theorem dL_law_710 : decode cL_law 710 = .ok (.iload_n 3, 1) := dk_29 ((dQ_L_law_44 6).trans dk_j6)
theorem dL_law_711 : decode cL_law 711 = .ok (.iconst 1, 1) := dk_4 ((dQ_L_law_44 7).trans dk_j7)
theorem dL_law_712 : decode cL_law 712 = .ok (.iadd, 1) := dk_96 ((dQ_L_law_44 8).trans dk_j8)
theorem dL_law_713 : decode cL_law 713 = .ok (.iaload, 1) := dk_46 ((dQ_L_law_44 9).trans dk_j9)
theorem dL_law_714 : decode cL_law 714 = .ok (.invokevirtual 73, 3) := dk_182 ((dQ_L_law_44 10).trans dk_j10) ((dQ_L_law_44 11).trans dk_j11) ((dQ_L_law_44 12).trans dk_j12) dk_vu2_0_73
theorem dL_law_717 : decode cL_law 717 = .ok (.pop, 1) := dk_87 ((dQ_L_law_44 13).trans dk_j13)
theorem dL_law_718 : decode cL_law 718 = .ok (.aload_n 2, 1) := dk_44 ((dQ_L_law_44 14).trans dk_j14)
theorem dL_law_719 : decode cL_law 719 = .ok (.aload_n 0, 1) := dk_42 ((dQ_L_law_44 15).trans dk_j15)
theorem dL_law_720 : decode cL_law 720 = .ok (.iload_n 3, 1) := dk_29 ((dQ_L_law_45 0).trans dk_j0)
theorem dL_law_721 : decode cL_law 721 = .ok (.iconst 1, 1) := dk_4 ((dQ_L_law_45 1).trans dk_j1)
theorem dL_law_722 : decode cL_law 722 = .ok (.iadd, 1) := dk_96 ((dQ_L_law_45 2).trans dk_j2)
theorem dL_law_723 : decode cL_law 723 = .ok (.iaload, 1) := dk_46 ((dQ_L_law_45 3).trans dk_j3)
theorem dL_law_724 : decode cL_law 724 = .ok (.invokevirtual 76, 3) := dk_182 ((dQ_L_law_45 4).trans dk_j4) ((dQ_L_law_45 5).trans dk_j5) ((dQ_L_law_45 6).trans dk_j6) dk_vu2_0_76
theorem dL_law_727 : decode cL_law 727 = .ok (.pop, 1) := dk_87 ((dQ_L_law_45 7).trans dk_j7)
theorem dk_vs2_5_164 : Reader.signed 16 ((0x05 : UInt8).toNat * 256 + (0xa4 : UInt8).toNat) = (1444 : Int) := by decide +kernel
theorem dL_law_728 : decode cL_law 728 = .ok (.goto 1444, 3) := dk_167 ((dQ_L_law_45 8).trans dk_j8) ((dQ_L_law_45 9).trans dk_j9) ((dQ_L_law_45 10).trans dk_j10) dk_vs2_5_164
theorem dL_law_731 : decode cL_law 731 = .ok (.aload_n 1, 1) := dk_43 ((dQ_L_law_45 11).trans dk_j11)
theorem dL_law_732 : decode cL_law 732 = .ok (.aload_n 0, 1) := dk_42 ((dQ_L_law_45 12).trans dk_j12)
theorem dL_law_733 : decode cL_law 733 = .ok (.iload_n 3, 1) := dk_29 ((dQ_L_law_45 13).trans dk_j13)
theorem dL_law_734 : decode cL_law 734 = .ok (.iconst 1, 1) := dk_4 ((dQ_L_law_45 14).trans dk_j14)
theorem dL_law_735 : decode cL_law 735 = .ok (.iadd, 1) := dk_96 ((dQ_L_law_45 15).trans dk_j15)
theorem dL_law_736 : decode cL_law 736 = .ok (.iaload, 1) := dk_46 ((dQ_L_law_46 0).trans dk_j0)
theorem dL_law_737 : decode cL_law 737 = .ok (.invokevirtual 77, 3) := dk_182 ((dQ_L_law_46 1).trans dk_j1) ((dQ_L_law_46 2).trans dk_j2) ((dQ_L_law_46 3).trans dk_j3) dk_vu2_0_77
theorem dL_law_740 : decode cL_law 740 = .ok (.pop, 1) := dk_87 ((dQ_L_law_46 4).trans dk_j4)
theorem dL_law_741 : decode cL_law 741 = .ok (.aload_n 2, 1) := dk_44 ((dQ_L_law_46 5).trans dk_j5)
theorem dL_law_742 : decode cL_law 742 = .ok (.aload_n 0, 1) := dk_42 ((dQ_L_law_46 6).trans dk_j6)
theorem dL_law_743 : decode cL_law 743 = .ok (.iload_n 3, 1) := dk_29 ((dQ_L_law_46 7).trans dk_j7)
theorem dL_law_744 : decode cL_law 744 = .ok (.iconst 1, 1) := dk_4 ((dQ_L_law_46 8).trans dk_j8)
theorem dL_law_745 : decode cL_law 745 = .ok (.iadd, 1) := dk_96 ((dQ_L_law_46 9).trans dk_j9)
theorem dL_law_746 : decode cL_law 746 = .ok (.iaload, 1) := dk_46 ((dQ_L_law_46 10).trans dk_j10)
theorem dL_law_747 : decode cL_law 747 = .ok (.invokevirtual 80, 3) := dk_182 ((dQ_L_law_46 11).trans dk_j11) ((dQ_L_law_46 12).trans dk_j12) ((dQ_L_law_46 13).trans dk_j13) dk_vu2_0_80
theorem dL_law_750 : decode cL_law 750 = .ok (.pop, 1) := dk_87 ((dQ_L_law_46 14).trans dk_j14)
theorem dk_vs2_5_141 : Reader.signed 16 ((0x05 : UInt8).toNat * 256 + (0x8d : UInt8).toNat) = (1421 : Int) := by decide +kernel
theorem dL_law_751 : decode cL_law 751 = .ok (.goto 1421, 3) := dk_167 ((dQ_L_law_46 15).trans dk_j15) ((dQ_L_law_47 0).trans dk_j0) ((dQ_L_law_47 1).trans dk_j1) dk_vs2_5_141
theorem dL_law_754 : decode cL_law 754 = .ok (.aload_n 1, 1) := dk_43 ((dQ_L_law_47 2).trans dk_j2)
theorem dL_law_755 : decode cL_law 755 = .ok (.invokevirtual 81, 3) := dk_182 ((dQ_L_law_47 3).trans dk_j3) ((dQ_L_law_47 4).trans dk_j4) ((dQ_L_law_47 5).trans dk_j5) dk_vu2_0_81
theorem dL_law_758 : decode cL_law 758 = .ok (.pop, 1) := dk_87 ((dQ_L_law_47 6).trans dk_j6)
theorem dL_law_759 : decode cL_law 759 = .ok (.aload_n 2, 1) := dk_44 ((dQ_L_law_47 7).trans dk_j7)
theorem dk_vu2_0_84 : (0x00 : UInt8).toNat * 256 + (0x54 : UInt8).toNat = (84 : Nat) := by decide +kernel
theorem dL_law_760 : decode cL_law 760 = .ok (.invokevirtual 84, 3) := dk_182 ((dQ_L_law_47 8).trans dk_j8) ((dQ_L_law_47 9).trans dk_j9) ((dQ_L_law_47 10).trans dk_j10) dk_vu2_0_84
theorem dL_law_763 : decode cL_law 763 = .ok (.pop, 1) := dk_87 ((dQ_L_law_47 11).trans dk_j11)
theorem dk_vs2_5_128 : Reader.signed 16 ((0x05 : UInt8).toNat * 256 + (0x80 : UInt8).toNat) = (1408 : Int) := by decide +kernel
theorem dL_law_764 : decode cL_law 764 = .ok (.goto 1408, 3) := dk_167 ((dQ_L_law_47 12).trans dk_j12) ((dQ_L_law_47 13).trans dk_j13) ((dQ_L_law_47 14).trans dk_j14) dk_vs2_5_128
theorem dL_law_767 : decode cL_law 767 = .ok (.aload_n 1, 1) := dk_43 ((dQ_L_law_47 15).trans dk_j15)
theorem dL_law_768 : decode cL_law 768 = .ok (.invokevirtual 85, 3) := dk_182 ((dQ_L_law_48 0).trans dk_j0) ((dQ_L_law_48 1).trans dk_j1) ((dQ_L_law_48 2).trans dk_j2) dk_vu2_0_85
theorem dL_law_771 : decode cL_law 771 = .ok (.pop, 1) := dk_87 ((dQ_L_law_48 3).trans dk_j3)
theorem dL_law_772 : decode cL_law 772 = .ok (.aload_n 2, 1) := dk_44 ((dQ_L_law_48 4).trans dk_j4)
theorem dk_vu2_0_88 : (0x00 : UInt8).toNat * 256 + (0x58 : UInt8).toNat = (88 : Nat) := by decide +kernel
theorem dL_law_773 : decode cL_law 773 = .ok (.invokevirtual 88, 3) := dk_182 ((dQ_L_law_48 5).trans dk_j5) ((dQ_L_law_48 6).trans dk_j6) ((dQ_L_law_48 7).trans dk_j7) dk_vu2_0_88
theorem dL_law_776 : decode cL_law 776 = .ok (.pop, 1) := dk_87 ((dQ_L_law_48 8).trans dk_j8)
theorem dk_vs2_5_115 : Reader.signed 16 ((0x05 : UInt8).toNat * 256 + (0x73 : UInt8).toNat) = (1395 : Int) := by decide +kernel
theorem dL_law_777 : decode cL_law 777 = .ok (.goto 1395, 3) := dk_167 ((dQ_L_law_48 9).trans dk_j9) ((dQ_L_law_48 10).trans dk_j10) ((dQ_L_law_48 11).trans dk_j11) dk_vs2_5_115
theorem dL_law_780 : decode cL_law 780 = .ok (.aload_n 1, 1) := dk_43 ((dQ_L_law_48 12).trans dk_j12)
theorem dL_law_781 : decode cL_law 781 = .ok (.invokevirtual 89, 3) := dk_182 ((dQ_L_law_48 13).trans dk_j13) ((dQ_L_law_48 14).trans dk_j14) ((dQ_L_law_48 15).trans dk_j15) dk_vu2_0_89
theorem dL_law_784 : decode cL_law 784 = .ok (.pop, 1) := dk_87 ((dQ_L_law_49 0).trans dk_j0)
theorem dL_law_785 : decode cL_law 785 = .ok (.aload_n 2, 1) := dk_44 ((dQ_L_law_49 1).trans dk_j1)
theorem dL_law_786 : decode cL_law 786 = .ok (.invokevirtual 92, 3) := dk_182 ((dQ_L_law_49 2).trans dk_j2) ((dQ_L_law_49 3).trans dk_j3) ((dQ_L_law_49 4).trans dk_j4) dk_vu2_0_92
theorem dL_law_789 : decode cL_law 789 = .ok (.pop, 1) := dk_87 ((dQ_L_law_49 5).trans dk_j5)
theorem dk_vs2_5_102 : Reader.signed 16 ((0x05 : UInt8).toNat * 256 + (0x66 : UInt8).toNat) = (1382 : Int) := by decide +kernel
theorem dL_law_790 : decode cL_law 790 = .ok (.goto 1382, 3) := dk_167 ((dQ_L_law_49 6).trans dk_j6) ((dQ_L_law_49 7).trans dk_j7) ((dQ_L_law_49 8).trans dk_j8) dk_vs2_5_102
theorem dL_law_793 : decode cL_law 793 = .ok (.aload_n 1, 1) := dk_43 ((dQ_L_law_49 9).trans dk_j9)
theorem dL_law_794 : decode cL_law 794 = .ok (.aload_n 0, 1) := dk_42 ((dQ_L_law_49 10).trans dk_j10)
theorem dL_law_795 : decode cL_law 795 = .ok (.iload_n 3, 1) := dk_29 ((dQ_L_law_49 11).trans dk_j11)
theorem dL_law_796 : decode cL_law 796 = .ok (.iconst 1, 1) := dk_4 ((dQ_L_law_49 12).trans dk_j12)
theorem dL_law_797 : decode cL_law 797 = .ok (.iadd, 1) := dk_96 ((dQ_L_law_49 13).trans dk_j13)
theorem dL_law_798 : decode cL_law 798 = .ok (.iaload, 1) := dk_46 ((dQ_L_law_49 14).trans dk_j14)
theorem dk_vu2_0_93 : (0x00 : UInt8).toNat * 256 + (0x5d : UInt8).toNat = (93 : Nat) := by decide +kernel
theorem dL_law_799 : decode cL_law 799 = .ok (.invokevirtual 93, 3) := dk_182 ((dQ_L_law_49 15).trans dk_j15) ((dQ_L_law_50 0).trans dk_j0) ((dQ_L_law_50 1).trans dk_j1) dk_vu2_0_93
theorem dL_law_802 : decode cL_law 802 = .ok (.aload_n 2, 1) := dk_44 ((dQ_L_law_50 2).trans dk_j2)
theorem dL_law_803 : decode cL_law 803 = .ok (.aload_n 0, 1) := dk_42 ((dQ_L_law_50 3).trans dk_j3)
theorem dL_law_804 : decode cL_law 804 = .ok (.iload_n 3, 1) := dk_29 ((dQ_L_law_50 4).trans dk_j4)
theorem dL_law_805 : decode cL_law 805 = .ok (.iconst 1, 1) := dk_4 ((dQ_L_law_50 5).trans dk_j5)
theorem dL_law_806 : decode cL_law 806 = .ok (.iadd, 1) := dk_96 ((dQ_L_law_50 6).trans dk_j6)
theorem dL_law_807 : decode cL_law 807 = .ok (.iaload, 1) := dk_46 ((dQ_L_law_50 7).trans dk_j7)
theorem dk_vu2_0_96 : (0x00 : UInt8).toNat * 256 + (0x60 : UInt8).toNat = (96 : Nat) := by decide +kernel
theorem dL_law_808 : decode cL_law 808 = .ok (.invokevirtual 96, 3) := dk_182 ((dQ_L_law_50 8).trans dk_j8) ((dQ_L_law_50 9).trans dk_j9) ((dQ_L_law_50 10).trans dk_j10) dk_vu2_0_96
theorem dk_vs2_5_81 : Reader.signed 16 ((0x05 : UInt8).toNat * 256 + (0x51 : UInt8).toNat) = (1361 : Int) := by decide +kernel
theorem dL_law_811 : decode cL_law 811 = .ok (.if_icmp .eq 1361, 3) := dk_159 ((dQ_L_law_50 11).trans dk_j11) ((dQ_L_law_50 12).trans dk_j12) ((dQ_L_law_50 13).trans dk_j13) dk_vs2_5_81
theorem dL_law_814 : decode cL_law 814 = .ok (.iconst 0, 1) := dk_3 ((dQ_L_law_50 14).trans dk_j14)
theorem dL_law_815 : decode cL_law 815 = .ok (.ireturn, 1) := dk_172 ((dQ_L_law_50 15).trans dk_j15)
theorem dL_law_816 : decode cL_law 816 = .ok (.aload_n 1, 1) := dk_43 ((dQ_L_law_51 0).trans dk_j0)
theorem dL_law_817 : decode cL_law 817 = .ok (.aload_n 0, 1) := dk_42 ((dQ_L_law_51 1).trans dk_j1)
theorem dL_law_818 : decode cL_law 818 = .ok (.iload_n 3, 1) := dk_29 ((dQ_L_law_51 2).trans dk_j2)
theorem dL_law_819 : decode cL_law 819 = .ok (.iconst 1, 1) := dk_4 ((dQ_L_law_51 3).trans dk_j3)
theorem dL_law_820 : decode cL_law 820 = .ok (.iadd, 1) := dk_96 ((dQ_L_law_51 4).trans dk_j4)
theorem dL_law_821 : decode cL_law 821 = .ok (.iaload, 1) := dk_46 ((dQ_L_law_51 5).trans dk_j5)
theorem dL_law_822 : decode cL_law 822 = .ok (.aload_n 0, 1) := dk_42 ((dQ_L_law_51 6).trans dk_j6)
theorem dL_law_823 : decode cL_law 823 = .ok (.iload_n 3, 1) := dk_29 ((dQ_L_law_51 7).trans dk_j7)
theorem dL_law_824 : decode cL_law 824 = .ok (.iconst 2, 1) := dk_5 ((dQ_L_law_51 8).trans dk_j8)
theorem dL_law_825 : decode cL_law 825 = .ok (.iadd, 1) := dk_96 ((dQ_L_law_51 9).trans dk_j9)
theorem dL_law_826 : decode cL_law 826 = .ok (.iaload, 1) := dk_46 ((dQ_L_law_51 10).trans dk_j10)
theorem dL_law_827 : decode cL_law 827 = .ok (.invokevirtual 97, 3) := dk_182 ((dQ_L_law_51 11).trans dk_j11) ((dQ_L_law_51 12).trans dk_j12) ((dQ_L_law_51 13).trans dk_j13) dk_vu2_0_97
theorem dL_law_830 : decode cL_law 830 = .ok (.pop, 1) := dk_87 ((dQ_L_law_51 14).trans dk_j14)
theorem dL_law_831 : decode cL_law 831 = .ok (.aload_n 2, 1) := dk_44 ((dQ_L_law_51 15).trans dk_j15)
theorem dL_law_832 : decode cL_law 832 = .ok (.aload_n 0, 1) := dk_42 ((dQ_L_law_52 0).trans dk_j0)
theorem dL_law_833 : decode cL_law 833 = .ok (.iload_n 3, 1) := dk_29 ((dQ_L_law_52 1).trans dk_j1)
theorem dL_law_834 : decode cL_law 834 = .ok (.iconst 1, 1) := dk_4 ((dQ_L_law_52 2).trans dk_j2)
theorem dL_law_835 : decode cL_law 835 = .ok (.iadd, 1) := dk_96 ((dQ_L_law_52 3).trans dk_j3)
theorem dL_law_836 : decode cL_law 836 = .ok (.iaload, 1) := dk_46 ((dQ_L_law_52 4).trans dk_j4)
theorem dL_law_837 : decode cL_law 837 = .ok (.aload_n 0, 1) := dk_42 ((dQ_L_law_52 5).trans dk_j5)
theorem dL_law_838 : decode cL_law 838 = .ok (.iload_n 3, 1) := dk_29 ((dQ_L_law_52 6).trans dk_j6)
theorem dL_law_839 : decode cL_law 839 = .ok (.iconst 2, 1) := dk_5 ((dQ_L_law_52 7).trans dk_j7)
theorem dL_law_840 : decode cL_law 840 = .ok (.iadd, 1) := dk_96 ((dQ_L_law_52 8).trans dk_j8)
theorem dL_law_841 : decode cL_law 841 = .ok (.iaload, 1) := dk_46 ((dQ_L_law_52 9).trans dk_j9)
theorem dL_law_842 : decode cL_law 842 = .ok (.invokevirtual 100, 3) := dk_182 ((dQ_L_law_52 10).trans dk_j10) ((dQ_L_law_52 11).trans dk_j11) ((dQ_L_law_52 12).trans dk_j12) dk_vu2_0_100
theorem dL_law_845 : decode cL_law 845 = .ok (.pop, 1) := dk_87 ((dQ_L_law_52 13).trans dk_j13)
theorem dk_vs2_5_46 : Reader.signed 16 ((0x05 : UInt8).toNat * 256 + (0x2e : UInt8).toNat) = (1326 : Int) := by decide +kernel
theorem dL_law_846 : decode cL_law 846 = .ok (.goto 1326, 3) := dk_167 ((dQ_L_law_52 14).trans dk_j14) ((dQ_L_law_52 15).trans dk_j15) ((dQ_L_law_53 0).trans dk_j0) dk_vs2_5_46
theorem dL_law_849 : decode cL_law 849 = .ok (.aload_n 1, 1) := dk_43 ((dQ_L_law_53 1).trans dk_j1)
theorem dL_law_850 : decode cL_law 850 = .ok (.aload_n 0, 1) := dk_42 ((dQ_L_law_53 2).trans dk_j2)
theorem dL_law_851 : decode cL_law 851 = .ok (.iload_n 3, 1) := dk_29 ((dQ_L_law_53 3).trans dk_j3)
theorem dL_law_852 : decode cL_law 852 = .ok (.iconst 1, 1) := dk_4 ((dQ_L_law_53 4).trans dk_j4)
theorem dL_law_853 : decode cL_law 853 = .ok (.iadd, 1) := dk_96 ((dQ_L_law_53 5).trans dk_j5)
theorem dL_law_854 : decode cL_law 854 = .ok (.iaload, 1) := dk_46 ((dQ_L_law_53 6).trans dk_j6)
theorem dk_vu2_0_101 : (0x00 : UInt8).toNat * 256 + (0x65 : UInt8).toNat = (101 : Nat) := by decide +kernel
theorem dL_law_855 : decode cL_law 855 = .ok (.invokevirtual 101, 3) := dk_182 ((dQ_L_law_53 7).trans dk_j7) ((dQ_L_law_53 8).trans dk_j8) ((dQ_L_law_53 9).trans dk_j9) dk_vu2_0_101
theorem dL_law_858 : decode cL_law 858 = .ok (.pop, 1) := dk_87 ((dQ_L_law_53 10).trans dk_j10)
theorem dL_law_859 : decode cL_law 859 = .ok (.aload_n 2, 1) := dk_44 ((dQ_L_law_53 11).trans dk_j11)
theorem dL_law_860 : decode cL_law 860 = .ok (.aload_n 0, 1) := dk_42 ((dQ_L_law_53 12).trans dk_j12)
theorem dL_law_861 : decode cL_law 861 = .ok (.iload_n 3, 1) := dk_29 ((dQ_L_law_53 13).trans dk_j13)
theorem dL_law_862 : decode cL_law 862 = .ok (.iconst 1, 1) := dk_4 ((dQ_L_law_53 14).trans dk_j14)
theorem dL_law_863 : decode cL_law 863 = .ok (.iadd, 1) := dk_96 ((dQ_L_law_53 15).trans dk_j15)
theorem dL_law_864 : decode cL_law 864 = .ok (.iaload, 1) := dk_46 ((dQ_L_law_54 0).trans dk_j0)
theorem dL_law_865 : decode cL_law 865 = .ok (.invokevirtual 104, 3) := dk_182 ((dQ_L_law_54 1).trans dk_j1) ((dQ_L_law_54 2).trans dk_j2) ((dQ_L_law_54 3).trans dk_j3) dk_vu2_0_104
theorem dL_law_868 : decode cL_law 868 = .ok (.pop, 1) := dk_87 ((dQ_L_law_54 4).trans dk_j4)
theorem dk_vs2_5_23 : Reader.signed 16 ((0x05 : UInt8).toNat * 256 + (0x17 : UInt8).toNat) = (1303 : Int) := by decide +kernel
theorem dL_law_869 : decode cL_law 869 = .ok (.goto 1303, 3) := dk_167 ((dQ_L_law_54 5).trans dk_j5) ((dQ_L_law_54 6).trans dk_j6) ((dQ_L_law_54 7).trans dk_j7) dk_vs2_5_23
theorem dL_law_872 : decode cL_law 872 = .ok (.aload_n 1, 1) := dk_43 ((dQ_L_law_54 8).trans dk_j8)
theorem dL_law_873 : decode cL_law 873 = .ok (.invokevirtual 105, 3) := dk_182 ((dQ_L_law_54 9).trans dk_j9) ((dQ_L_law_54 10).trans dk_j10) ((dQ_L_law_54 11).trans dk_j11) dk_vu2_0_105
theorem dL_law_876 : decode cL_law 876 = .ok (.pop, 1) := dk_87 ((dQ_L_law_54 12).trans dk_j12)
theorem dL_law_877 : decode cL_law 877 = .ok (.aload_n 2, 1) := dk_44 ((dQ_L_law_54 13).trans dk_j13)
theorem dL_law_878 : decode cL_law 878 = .ok (.invokevirtual 108, 3) := dk_182 ((dQ_L_law_54 14).trans dk_j14) ((dQ_L_law_54 15).trans dk_j15) ((dQ_L_law_55 0).trans dk_j0) dk_vu2_0_108
theorem dL_law_881 : decode cL_law 881 = .ok (.pop, 1) := dk_87 ((dQ_L_law_55 1).trans dk_j1)
theorem dk_vs2_5_10 : Reader.signed 16 ((0x05 : UInt8).toNat * 256 + (0x0a : UInt8).toNat) = (1290 : Int) := by decide +kernel
theorem dL_law_882 : decode cL_law 882 = .ok (.goto 1290, 3) := dk_167 ((dQ_L_law_55 2).trans dk_j2) ((dQ_L_law_55 3).trans dk_j3) ((dQ_L_law_55 4).trans dk_j4) dk_vs2_5_10
theorem dL_law_885 : decode cL_law 885 = .ok (.aload_n 1, 1) := dk_43 ((dQ_L_law_55 5).trans dk_j5)
theorem dL_law_886 : decode cL_law 886 = .ok (.aload_n 0, 1) := dk_42 ((dQ_L_law_55 6).trans dk_j6)
theorem dL_law_887 : decode cL_law 887 = .ok (.iload_n 3, 1) := dk_29 ((dQ_L_law_55 7).trans dk_j7)
theorem dL_law_888 : decode cL_law 888 = .ok (.iconst 1, 1) := dk_4 ((dQ_L_law_55 8).trans dk_j8)
theorem dL_law_889 : decode cL_law 889 = .ok (.iadd, 1) := dk_96 ((dQ_L_law_55 9).trans dk_j9)
theorem dL_law_890 : decode cL_law 890 = .ok (.iaload, 1) := dk_46 ((dQ_L_law_55 10).trans dk_j10)
theorem dL_law_891 : decode cL_law 891 = .ok (.invokevirtual 109, 3) := dk_182 ((dQ_L_law_55 11).trans dk_j11) ((dQ_L_law_55 12).trans dk_j12) ((dQ_L_law_55 13).trans dk_j13) dk_vu2_0_109
theorem dL_law_894 : decode cL_law 894 = .ok (.pop, 1) := dk_87 ((dQ_L_law_55 14).trans dk_j14)
theorem dL_law_895 : decode cL_law 895 = .ok (.aload_n 2, 1) := dk_44 ((dQ_L_law_55 15).trans dk_j15)
theorem dL_law_896 : decode cL_law 896 = .ok (.aload_n 0, 1) := dk_42 ((dQ_L_law_56 0).trans dk_j0)
theorem dL_law_897 : decode cL_law 897 = .ok (.iload_n 3, 1) := dk_29 ((dQ_L_law_56 1).trans dk_j1)
theorem dL_law_898 : decode cL_law 898 = .ok (.iconst 1, 1) := dk_4 ((dQ_L_law_56 2).trans dk_j2)
theorem dL_law_899 : decode cL_law 899 = .ok (.iadd, 1) := dk_96 ((dQ_L_law_56 3).trans dk_j3)
theorem dL_law_900 : decode cL_law 900 = .ok (.iaload, 1) := dk_46 ((dQ_L_law_56 4).trans dk_j4)
theorem dk_vu2_0_112 : (0x00 : UInt8).toNat * 256 + (0x70 : UInt8).toNat = (112 : Nat) := by decide +kernel
theorem dL_law_901 : decode cL_law 901 = .ok (.invokevirtual 112, 3) := dk_182 ((dQ_L_law_56 5).trans dk_j5) ((dQ_L_law_56 6).trans dk_j6) ((dQ_L_law_56 7).trans dk_j7) dk_vu2_0_112
theorem dL_law_904 : decode cL_law 904 = .ok (.pop, 1) := dk_87 ((dQ_L_law_56 8).trans dk_j8)
theorem dk_vs2_4_243 : Reader.signed 16 ((0x04 : UInt8).toNat * 256 + (0xf3 : UInt8).toNat) = (1267 : Int) := by decide +kernel
theorem dL_law_905 : decode cL_law 905 = .ok (.goto 1267, 3) := dk_167 ((dQ_L_law_56 9).trans dk_j9) ((dQ_L_law_56 10).trans dk_j10) ((dQ_L_law_56 11).trans dk_j11) dk_vs2_4_243
theorem dL_law_908 : decode cL_law 908 = .ok (.aload_n 1, 1) := dk_43 ((dQ_L_law_56 12).trans dk_j12)
theorem dL_law_909 : decode cL_law 909 = .ok (.aload_n 0, 1) := dk_42 ((dQ_L_law_56 13).trans dk_j13)
theorem dL_law_910 : decode cL_law 910 = .ok (.iload_n 3, 1) := dk_29 ((dQ_L_law_56 14).trans dk_j14)
theorem dL_law_911 : decode cL_law 911 = .ok (.iconst 1, 1) := dk_4 ((dQ_L_law_56 15).trans dk_j15)
theorem dL_law_912 : decode cL_law 912 = .ok (.iadd, 1) := dk_96 ((dQ_L_law_57 0).trans dk_j0)
theorem dL_law_913 : decode cL_law 913 = .ok (.iaload, 1) := dk_46 ((dQ_L_law_57 1).trans dk_j1)
theorem dL_law_914 : decode cL_law 914 = .ok (.invokevirtual 113, 3) := dk_182 ((dQ_L_law_57 2).trans dk_j2) ((dQ_L_law_57 3).trans dk_j3) ((dQ_L_law_57 4).trans dk_j4) dk_vu2_0_113
theorem dL_law_917 : decode cL_law 917 = .ok (.pop, 1) := dk_87 ((dQ_L_law_57 5).trans dk_j5)
theorem dL_law_918 : decode cL_law 918 = .ok (.aload_n 2, 1) := dk_44 ((dQ_L_law_57 6).trans dk_j6)
theorem dL_law_919 : decode cL_law 919 = .ok (.aload_n 0, 1) := dk_42 ((dQ_L_law_57 7).trans dk_j7)
theorem dL_law_920 : decode cL_law 920 = .ok (.iload_n 3, 1) := dk_29 ((dQ_L_law_57 8).trans dk_j8)
theorem dL_law_921 : decode cL_law 921 = .ok (.iconst 1, 1) := dk_4 ((dQ_L_law_57 9).trans dk_j9)
theorem dL_law_922 : decode cL_law 922 = .ok (.iadd, 1) := dk_96 ((dQ_L_law_57 10).trans dk_j10)
theorem dL_law_923 : decode cL_law 923 = .ok (.iaload, 1) := dk_46 ((dQ_L_law_57 11).trans dk_j11)
theorem dL_law_924 : decode cL_law 924 = .ok (.invokevirtual 116, 3) := dk_182 ((dQ_L_law_57 12).trans dk_j12) ((dQ_L_law_57 13).trans dk_j13) ((dQ_L_law_57 14).trans dk_j14) dk_vu2_0_116
theorem dL_law_927 : decode cL_law 927 = .ok (.pop, 1) := dk_87 ((dQ_L_law_57 15).trans dk_j15)
theorem dk_vs2_4_220 : Reader.signed 16 ((0x04 : UInt8).toNat * 256 + (0xdc : UInt8).toNat) = (1244 : Int) := by decide +kernel
theorem dL_law_928 : decode cL_law 928 = .ok (.goto 1244, 3) := dk_167 ((dQ_L_law_58 0).trans dk_j0) ((dQ_L_law_58 1).trans dk_j1) ((dQ_L_law_58 2).trans dk_j2) dk_vs2_4_220
theorem dL_law_931 : decode cL_law 931 = .ok (.aload_n 1, 1) := dk_43 ((dQ_L_law_58 3).trans dk_j3)
theorem dL_law_932 : decode cL_law 932 = .ok (.invokevirtual 117, 3) := dk_182 ((dQ_L_law_58 4).trans dk_j4) ((dQ_L_law_58 5).trans dk_j5) ((dQ_L_law_58 6).trans dk_j6) dk_vu2_0_117
theorem dL_law_935 : decode cL_law 935 = .ok (.pop, 1) := dk_87 ((dQ_L_law_58 7).trans dk_j7)
theorem dL_law_936 : decode cL_law 936 = .ok (.aload_n 2, 1) := dk_44 ((dQ_L_law_58 8).trans dk_j8)
theorem dk_vu2_0_120 : (0x00 : UInt8).toNat * 256 + (0x78 : UInt8).toNat = (120 : Nat) := by decide +kernel
theorem dL_law_937 : decode cL_law 937 = .ok (.invokevirtual 120, 3) := dk_182 ((dQ_L_law_58 9).trans dk_j9) ((dQ_L_law_58 10).trans dk_j10) ((dQ_L_law_58 11).trans dk_j11) dk_vu2_0_120
theorem dL_law_940 : decode cL_law 940 = .ok (.pop, 1) := dk_87 ((dQ_L_law_58 12).trans dk_j12)
theorem dk_vs2_4_207 : Reader.signed 16 ((0x04 : UInt8).toNat * 256 + (0xcf : UInt8).toNat) = (1231 : Int) := by decide +kernel
theorem dL_law_941 : decode cL_law 941 = .ok (.goto 1231, 3) := dk_167 ((dQ_L_law_58 13).trans dk_j13) ((dQ_L_law_58 14).trans dk_j14) ((dQ_L_law_58 15).trans dk_j15) dk_vs2_4_207
theorem dL_law_944 : decode cL_law 944 = .ok (.aload_n 1, 1) := dk_43 ((dQ_L_law_59 0).trans dk_j0)
theorem dL_law_945 : decode cL_law 945 = .ok (.aload_n 0, 1) := dk_42 ((dQ_L_law_59 1).trans dk_j1)
theorem dL_law_946 : decode cL_law 946 = .ok (.iload_n 3, 1) := dk_29 ((dQ_L_law_59 2).trans dk_j2)
theorem dL_law_947 : decode cL_law 947 = .ok (.iconst 1, 1) := dk_4 ((dQ_L_law_59 3).trans dk_j3)
theorem dL_law_948 : decode cL_law 948 = .ok (.iadd, 1) := dk_96 ((dQ_L_law_59 4).trans dk_j4)
theorem dL_law_949 : decode cL_law 949 = .ok (.iaload, 1) := dk_46 ((dQ_L_law_59 5).trans dk_j5)
theorem dL_law_950 : decode cL_law 950 = .ok (.invokevirtual 121, 3) := dk_182 ((dQ_L_law_59 6).trans dk_j6) ((dQ_L_law_59 7).trans dk_j7) ((dQ_L_law_59 8).trans dk_j8) dk_vu2_0_121
theorem dL_law_953 : decode cL_law 953 = .ok (.pop, 1) := dk_87 ((dQ_L_law_59 9).trans dk_j9)
theorem dL_law_954 : decode cL_law 954 = .ok (.aload_n 2, 1) := dk_44 ((dQ_L_law_59 10).trans dk_j10)
theorem dL_law_955 : decode cL_law 955 = .ok (.aload_n 0, 1) := dk_42 ((dQ_L_law_59 11).trans dk_j11)
theorem dL_law_956 : decode cL_law 956 = .ok (.iload_n 3, 1) := dk_29 ((dQ_L_law_59 12).trans dk_j12)
theorem dL_law_957 : decode cL_law 957 = .ok (.iconst 1, 1) := dk_4 ((dQ_L_law_59 13).trans dk_j13)
theorem dL_law_958 : decode cL_law 958 = .ok (.iadd, 1) := dk_96 ((dQ_L_law_59 14).trans dk_j14)
theorem dL_law_959 : decode cL_law 959 = .ok (.iaload, 1) := dk_46 ((dQ_L_law_59 15).trans dk_j15)
theorem dk_vu2_0_124 : (0x00 : UInt8).toNat * 256 + (0x7c : UInt8).toNat = (124 : Nat) := by decide +kernel
theorem dL_law_960 : decode cL_law 960 = .ok (.invokevirtual 124, 3) := dk_182 ((dQ_L_law_60 0).trans dk_j0) ((dQ_L_law_60 1).trans dk_j1) ((dQ_L_law_60 2).trans dk_j2) dk_vu2_0_124
theorem dL_law_963 : decode cL_law 963 = .ok (.pop, 1) := dk_87 ((dQ_L_law_60 3).trans dk_j3)
theorem dk_vs2_4_184 : Reader.signed 16 ((0x04 : UInt8).toNat * 256 + (0xb8 : UInt8).toNat) = (1208 : Int) := by decide +kernel
theorem dL_law_964 : decode cL_law 964 = .ok (.goto 1208, 3) := dk_167 ((dQ_L_law_60 4).trans dk_j4) ((dQ_L_law_60 5).trans dk_j5) ((dQ_L_law_60 6).trans dk_j6) dk_vs2_4_184
theorem dL_law_967 : decode cL_law 967 = .ok (.aload_n 1, 1) := dk_43 ((dQ_L_law_60 7).trans dk_j7)
theorem dL_law_968 : decode cL_law 968 = .ok (.aload_n 0, 1) := dk_42 ((dQ_L_law_60 8).trans dk_j8)
theorem dL_law_969 : decode cL_law 969 = .ok (.iload_n 3, 1) := dk_29 ((dQ_L_law_60 9).trans dk_j9)
theorem dL_law_970 : decode cL_law 970 = .ok (.iconst 1, 1) := dk_4 ((dQ_L_law_60 10).trans dk_j10)
theorem dL_law_971 : decode cL_law 971 = .ok (.iadd, 1) := dk_96 ((dQ_L_law_60 11).trans dk_j11)
theorem dL_law_972 : decode cL_law 972 = .ok (.iaload, 1) := dk_46 ((dQ_L_law_60 12).trans dk_j12)
theorem dL_law_973 : decode cL_law 973 = .ok (.invokevirtual 125, 3) := dk_182 ((dQ_L_law_60 13).trans dk_j13) ((dQ_L_law_60 14).trans dk_j14) ((dQ_L_law_60 15).trans dk_j15) dk_vu2_0_125
theorem dL_law_976 : decode cL_law 976 = .ok (.pop, 1) := dk_87 ((dQ_L_law_61 0).trans dk_j0)
theorem dL_law_977 : decode cL_law 977 = .ok (.aload_n 2, 1) := dk_44 ((dQ_L_law_61 1).trans dk_j1)
theorem dL_law_978 : decode cL_law 978 = .ok (.aload_n 0, 1) := dk_42 ((dQ_L_law_61 2).trans dk_j2)
theorem dL_law_979 : decode cL_law 979 = .ok (.iload_n 3, 1) := dk_29 ((dQ_L_law_61 3).trans dk_j3)
theorem dL_law_980 : decode cL_law 980 = .ok (.iconst 1, 1) := dk_4 ((dQ_L_law_61 4).trans dk_j4)
theorem dL_law_981 : decode cL_law 981 = .ok (.iadd, 1) := dk_96 ((dQ_L_law_61 5).trans dk_j5)
theorem dL_law_982 : decode cL_law 982 = .ok (.iaload, 1) := dk_46 ((dQ_L_law_61 6).trans dk_j6)
theorem dL_law_983 : decode cL_law 983 = .ok (.invokevirtual 128, 3) := dk_182 ((dQ_L_law_61 7).trans dk_j7) ((dQ_L_law_61 8).trans dk_j8) ((dQ_L_law_61 9).trans dk_j9) dk_vu2_0_128
theorem dL_law_986 : decode cL_law 986 = .ok (.pop, 1) := dk_87 ((dQ_L_law_61 10).trans dk_j10)
theorem dk_vs2_4_161 : Reader.signed 16 ((0x04 : UInt8).toNat * 256 + (0xa1 : UInt8).toNat) = (1185 : Int) := by decide +kernel
theorem dL_law_987 : decode cL_law 987 = .ok (.goto 1185, 3) := dk_167 ((dQ_L_law_61 11).trans dk_j11) ((dQ_L_law_61 12).trans dk_j12) ((dQ_L_law_61 13).trans dk_j13) dk_vs2_4_161
theorem dL_law_990 : decode cL_law 990 = .ok (.aload_n 1, 1) := dk_43 ((dQ_L_law_61 14).trans dk_j14)
theorem dk_vu2_0_129 : (0x00 : UInt8).toNat * 256 + (0x81 : UInt8).toNat = (129 : Nat) := by decide +kernel
theorem dL_law_991 : decode cL_law 991 = .ok (.invokevirtual 129, 3) := dk_182 ((dQ_L_law_61 15).trans dk_j15) ((dQ_L_law_62 0).trans dk_j0) ((dQ_L_law_62 1).trans dk_j1) dk_vu2_0_129
theorem dL_law_994 : decode cL_law 994 = .ok (.pop, 1) := dk_87 ((dQ_L_law_62 2).trans dk_j2)
theorem dL_law_995 : decode cL_law 995 = .ok (.aload_n 2, 1) := dk_44 ((dQ_L_law_62 3).trans dk_j3)
theorem dk_vu2_0_132 : (0x00 : UInt8).toNat * 256 + (0x84 : UInt8).toNat = (132 : Nat) := by decide +kernel
theorem dL_law_996 : decode cL_law 996 = .ok (.invokevirtual 132, 3) := dk_182 ((dQ_L_law_62 4).trans dk_j4) ((dQ_L_law_62 5).trans dk_j5) ((dQ_L_law_62 6).trans dk_j6) dk_vu2_0_132
theorem dL_law_999 : decode cL_law 999 = .ok (.pop, 1) := dk_87 ((dQ_L_law_62 7).trans dk_j7)
theorem dk_vs2_4_148 : Reader.signed 16 ((0x04 : UInt8).toNat * 256 + (0x94 : UInt8).toNat) = (1172 : Int) := by decide +kernel
theorem dL_law_1000 : decode cL_law 1000 = .ok (.goto 1172, 3) := dk_167 ((dQ_L_law_62 8).trans dk_j8) ((dQ_L_law_62 9).trans dk_j9) ((dQ_L_law_62 10).trans dk_j10) dk_vs2_4_148
theorem dL_law_1003 : decode cL_law 1003 = .ok (.aload_n 1, 1) := dk_43 ((dQ_L_law_62 11).trans dk_j11)
theorem dL_law_1004 : decode cL_law 1004 = .ok (.aload_n 0, 1) := dk_42 ((dQ_L_law_62 12).trans dk_j12)
theorem dL_law_1005 : decode cL_law 1005 = .ok (.iload_n 3, 1) := dk_29 ((dQ_L_law_62 13).trans dk_j13)
theorem dL_law_1006 : decode cL_law 1006 = .ok (.iconst 1, 1) := dk_4 ((dQ_L_law_62 14).trans dk_j14)
theorem dL_law_1007 : decode cL_law 1007 = .ok (.iadd, 1) := dk_96 ((dQ_L_law_62 15).trans dk_j15)
theorem dL_law_1008 : decode cL_law 1008 = .ok (.iaload, 1) := dk_46 ((dQ_L_law_63 0).trans dk_j0)
theorem dk_vu2_0_133 : (0x00 : UInt8).toNat * 256 + (0x85 : UInt8).toNat = (133 : Nat) := by decide +kernel
theorem dL_law_1009 : decode cL_law 1009 = .ok (.invokevirtual 133, 3) := dk_182 ((dQ_L_law_63 1).trans dk_j1) ((dQ_L_law_63 2).trans dk_j2) ((dQ_L_law_63 3).trans dk_j3) dk_vu2_0_133
theorem dL_law_1012 : decode cL_law 1012 = .ok (.pop, 1) := dk_87 ((dQ_L_law_63 4).trans dk_j4)
theorem dL_law_1013 : decode cL_law 1013 = .ok (.aload_n 2, 1) := dk_44 ((dQ_L_law_63 5).trans dk_j5)
theorem dL_law_1014 : decode cL_law 1014 = .ok (.aload_n 0, 1) := dk_42 ((dQ_L_law_63 6).trans dk_j6)
theorem dL_law_1015 : decode cL_law 1015 = .ok (.iload_n 3, 1) := dk_29 ((dQ_L_law_63 7).trans dk_j7)
theorem dL_law_1016 : decode cL_law 1016 = .ok (.iconst 1, 1) := dk_4 ((dQ_L_law_63 8).trans dk_j8)
theorem dL_law_1017 : decode cL_law 1017 = .ok (.iadd, 1) := dk_96 ((dQ_L_law_63 9).trans dk_j9)
theorem dL_law_1018 : decode cL_law 1018 = .ok (.iaload, 1) := dk_46 ((dQ_L_law_63 10).trans dk_j10)
theorem dk_vu2_0_136 : (0x00 : UInt8).toNat * 256 + (0x88 : UInt8).toNat = (136 : Nat) := by decide +kernel
theorem dL_law_1019 : decode cL_law 1019 = .ok (.invokevirtual 136, 3) := dk_182 ((dQ_L_law_63 11).trans dk_j11) ((dQ_L_law_63 12).trans dk_j12) ((dQ_L_law_63 13).trans dk_j13) dk_vu2_0_136
theorem dL_law_1022 : decode cL_law 1022 = .ok (.pop, 1) := dk_87 ((dQ_L_law_63 14).trans dk_j14)
theorem dk_vs2_4_125 : Reader.signed 16 ((0x04 : UInt8).toNat * 256 + (0x7d : UInt8).toNat) = (1149 : Int) := by decide +kernel
theorem dL_law_1023 : decode cL_law 1023 = .ok (.goto 1149, 3) := dk_167 ((dQ_L_law_63 15).trans dk_j15) ((dQ_L_law_64 0).trans dk_j0) ((dQ_L_law_64 1).trans dk_j1) dk_vs2_4_125
theorem dL_law_1026 : decode cL_law 1026 = .ok (.aload_n 1, 1) := dk_43 ((dQ_L_law_64 2).trans dk_j2)
theorem dL_law_1027 : decode cL_law 1027 = .ok (.aload_n 0, 1) := dk_42 ((dQ_L_law_64 3).trans dk_j3)
theorem dL_law_1028 : decode cL_law 1028 = .ok (.iload_n 3, 1) := dk_29 ((dQ_L_law_64 4).trans dk_j4)
theorem dL_law_1029 : decode cL_law 1029 = .ok (.iconst 1, 1) := dk_4 ((dQ_L_law_64 5).trans dk_j5)
theorem dL_law_1030 : decode cL_law 1030 = .ok (.iadd, 1) := dk_96 ((dQ_L_law_64 6).trans dk_j6)
theorem dL_law_1031 : decode cL_law 1031 = .ok (.iaload, 1) := dk_46 ((dQ_L_law_64 7).trans dk_j7)
theorem dL_law_1032 : decode cL_law 1032 = .ok (.invokevirtual 137, 3) := dk_182 ((dQ_L_law_64 8).trans dk_j8) ((dQ_L_law_64 9).trans dk_j9) ((dQ_L_law_64 10).trans dk_j10) dk_vu2_0_137
theorem dL_law_1035 : decode cL_law 1035 = .ok (.pop, 1) := dk_87 ((dQ_L_law_64 11).trans dk_j11)
theorem dL_law_1036 : decode cL_law 1036 = .ok (.aload_n 2, 1) := dk_44 ((dQ_L_law_64 12).trans dk_j12)
theorem dL_law_1037 : decode cL_law 1037 = .ok (.aload_n 0, 1) := dk_42 ((dQ_L_law_64 13).trans dk_j13)
theorem dL_law_1038 : decode cL_law 1038 = .ok (.iload_n 3, 1) := dk_29 ((dQ_L_law_64 14).trans dk_j14)
theorem dL_law_1039 : decode cL_law 1039 = .ok (.iconst 1, 1) := dk_4 ((dQ_L_law_64 15).trans dk_j15)
theorem dL_law_1040 : decode cL_law 1040 = .ok (.iadd, 1) := dk_96 ((dQ_L_law_65 0).trans dk_j0)
theorem dL_law_1041 : decode cL_law 1041 = .ok (.iaload, 1) := dk_46 ((dQ_L_law_65 1).trans dk_j1)
theorem dL_law_1042 : decode cL_law 1042 = .ok (.invokevirtual 140, 3) := dk_182 ((dQ_L_law_65 2).trans dk_j2) ((dQ_L_law_65 3).trans dk_j3) ((dQ_L_law_65 4).trans dk_j4) dk_vu2_0_140
theorem dL_law_1045 : decode cL_law 1045 = .ok (.pop, 1) := dk_87 ((dQ_L_law_65 5).trans dk_j5)
theorem dk_vs2_4_102 : Reader.signed 16 ((0x04 : UInt8).toNat * 256 + (0x66 : UInt8).toNat) = (1126 : Int) := by decide +kernel
theorem dL_law_1046 : decode cL_law 1046 = .ok (.goto 1126, 3) := dk_167 ((dQ_L_law_65 6).trans dk_j6) ((dQ_L_law_65 7).trans dk_j7) ((dQ_L_law_65 8).trans dk_j8) dk_vs2_4_102
theorem dL_law_1049 : decode cL_law 1049 = .ok (.aload_n 1, 1) := dk_43 ((dQ_L_law_65 9).trans dk_j9)
theorem dL_law_1050 : decode cL_law 1050 = .ok (.aload_n 0, 1) := dk_42 ((dQ_L_law_65 10).trans dk_j10)
theorem dL_law_1051 : decode cL_law 1051 = .ok (.iload_n 3, 1) := dk_29 ((dQ_L_law_65 11).trans dk_j11)
theorem dL_law_1052 : decode cL_law 1052 = .ok (.iconst 1, 1) := dk_4 ((dQ_L_law_65 12).trans dk_j12)
theorem dL_law_1053 : decode cL_law 1053 = .ok (.iadd, 1) := dk_96 ((dQ_L_law_65 13).trans dk_j13)
theorem dL_law_1054 : decode cL_law 1054 = .ok (.iaload, 1) := dk_46 ((dQ_L_law_65 14).trans dk_j14)
theorem dL_law_1055 : decode cL_law 1055 = .ok (.invokevirtual 141, 3) := dk_182 ((dQ_L_law_65 15).trans dk_j15) ((dQ_L_law_66 0).trans dk_j0) ((dQ_L_law_66 1).trans dk_j1) dk_vu2_0_141
theorem dL_law_1058 : decode cL_law 1058 = .ok (.pop, 1) := dk_87 ((dQ_L_law_66 2).trans dk_j2)
theorem dL_law_1059 : decode cL_law 1059 = .ok (.aload_n 2, 1) := dk_44 ((dQ_L_law_66 3).trans dk_j3)
theorem dL_law_1060 : decode cL_law 1060 = .ok (.aload_n 0, 1) := dk_42 ((dQ_L_law_66 4).trans dk_j4)
theorem dL_law_1061 : decode cL_law 1061 = .ok (.iload_n 3, 1) := dk_29 ((dQ_L_law_66 5).trans dk_j5)
theorem dL_law_1062 : decode cL_law 1062 = .ok (.iconst 1, 1) := dk_4 ((dQ_L_law_66 6).trans dk_j6)
theorem dL_law_1063 : decode cL_law 1063 = .ok (.iadd, 1) := dk_96 ((dQ_L_law_66 7).trans dk_j7)
theorem dL_law_1064 : decode cL_law 1064 = .ok (.iaload, 1) := dk_46 ((dQ_L_law_66 8).trans dk_j8)
theorem dL_law_1065 : decode cL_law 1065 = .ok (.invokevirtual 144, 3) := dk_182 ((dQ_L_law_66 9).trans dk_j9) ((dQ_L_law_66 10).trans dk_j10) ((dQ_L_law_66 11).trans dk_j11) dk_vu2_0_144
theorem dL_law_1068 : decode cL_law 1068 = .ok (.pop, 1) := dk_87 ((dQ_L_law_66 12).trans dk_j12)
theorem dk_vs2_4_79 : Reader.signed 16 ((0x04 : UInt8).toNat * 256 + (0x4f : UInt8).toNat) = (1103 : Int) := by decide +kernel
theorem dL_law_1069 : decode cL_law 1069 = .ok (.goto 1103, 3) := dk_167 ((dQ_L_law_66 13).trans dk_j13) ((dQ_L_law_66 14).trans dk_j14) ((dQ_L_law_66 15).trans dk_j15) dk_vs2_4_79
theorem dL_law_1072 : decode cL_law 1072 = .ok (.aload_n 1, 1) := dk_43 ((dQ_L_law_67 0).trans dk_j0)
theorem dL_law_1073 : decode cL_law 1073 = .ok (.aload_n 0, 1) := dk_42 ((dQ_L_law_67 1).trans dk_j1)
theorem dL_law_1074 : decode cL_law 1074 = .ok (.iload_n 3, 1) := dk_29 ((dQ_L_law_67 2).trans dk_j2)
theorem dL_law_1075 : decode cL_law 1075 = .ok (.iconst 1, 1) := dk_4 ((dQ_L_law_67 3).trans dk_j3)
theorem dL_law_1076 : decode cL_law 1076 = .ok (.iadd, 1) := dk_96 ((dQ_L_law_67 4).trans dk_j4)
theorem dL_law_1077 : decode cL_law 1077 = .ok (.iaload, 1) := dk_46 ((dQ_L_law_67 5).trans dk_j5)
theorem dL_law_1078 : decode cL_law 1078 = .ok (.invokevirtual 145, 3) := dk_182 ((dQ_L_law_67 6).trans dk_j6) ((dQ_L_law_67 7).trans dk_j7) ((dQ_L_law_67 8).trans dk_j8) dk_vu2_0_145
theorem dL_law_1081 : decode cL_law 1081 = .ok (.pop, 1) := dk_87 ((dQ_L_law_67 9).trans dk_j9)
theorem dL_law_1082 : decode cL_law 1082 = .ok (.aload_n 2, 1) := dk_44 ((dQ_L_law_67 10).trans dk_j10)
theorem dL_law_1083 : decode cL_law 1083 = .ok (.aload_n 0, 1) := dk_42 ((dQ_L_law_67 11).trans dk_j11)
theorem dL_law_1084 : decode cL_law 1084 = .ok (.iload_n 3, 1) := dk_29 ((dQ_L_law_67 12).trans dk_j12)
theorem dL_law_1085 : decode cL_law 1085 = .ok (.iconst 1, 1) := dk_4 ((dQ_L_law_67 13).trans dk_j13)
theorem dL_law_1086 : decode cL_law 1086 = .ok (.iadd, 1) := dk_96 ((dQ_L_law_67 14).trans dk_j14)
theorem dL_law_1087 : decode cL_law 1087 = .ok (.iaload, 1) := dk_46 ((dQ_L_law_67 15).trans dk_j15)
theorem dL_law_1088 : decode cL_law 1088 = .ok (.invokevirtual 148, 3) := dk_182 ((dQ_L_law_68 0).trans dk_j0) ((dQ_L_law_68 1).trans dk_j1) ((dQ_L_law_68 2).trans dk_j2) dk_vu2_0_148
theorem dL_law_1091 : decode cL_law 1091 = .ok (.pop, 1) := dk_87 ((dQ_L_law_68 3).trans dk_j3)
theorem dk_vs2_4_56 : Reader.signed 16 ((0x04 : UInt8).toNat * 256 + (0x38 : UInt8).toNat) = (1080 : Int) := by decide +kernel
theorem dL_law_1092 : decode cL_law 1092 = .ok (.goto 1080, 3) := dk_167 ((dQ_L_law_68 4).trans dk_j4) ((dQ_L_law_68 5).trans dk_j5) ((dQ_L_law_68 6).trans dk_j6) dk_vs2_4_56
theorem dL_law_1095 : decode cL_law 1095 = .ok (.aload_n 1, 1) := dk_43 ((dQ_L_law_68 7).trans dk_j7)
theorem dk_vu2_0_149 : (0x00 : UInt8).toNat * 256 + (0x95 : UInt8).toNat = (149 : Nat) := by decide +kernel
theorem dL_law_1096 : decode cL_law 1096 = .ok (.invokevirtual 149, 3) := dk_182 ((dQ_L_law_68 8).trans dk_j8) ((dQ_L_law_68 9).trans dk_j9) ((dQ_L_law_68 10).trans dk_j10) dk_vu2_0_149
theorem dL_law_1099 : decode cL_law 1099 = .ok (.pop, 1) := dk_87 ((dQ_L_law_68 11).trans dk_j11)
theorem dL_law_1100 : decode cL_law 1100 = .ok (.aload_n 2, 1) := dk_44 ((dQ_L_law_68 12).trans dk_j12)
theorem dk_vu2_0_152 : (0x00 : UInt8).toNat * 256 + (0x98 : UInt8).toNat = (152 : Nat) := by decide +kernel
theorem dL_law_1101 : decode cL_law 1101 = .ok (.invokevirtual 152, 3) := dk_182 ((dQ_L_law_68 13).trans dk_j13) ((dQ_L_law_68 14).trans dk_j14) ((dQ_L_law_68 15).trans dk_j15) dk_vu2_0_152
theorem dL_law_1104 : decode cL_law 1104 = .ok (.pop, 1) := dk_87 ((dQ_L_law_69 0).trans dk_j0)
theorem dk_vs2_4_43 : Reader.signed 16 ((0x04 : UInt8).toNat * 256 + (0x2b : UInt8).toNat) = (1067 : Int) := by decide +kernel
theorem dL_law_1105 : decode cL_law 1105 = .ok (.goto 1067, 3) := dk_167 ((dQ_L_law_69 1).trans dk_j1) ((dQ_L_law_69 2).trans dk_j2) ((dQ_L_law_69 3).trans dk_j3) dk_vs2_4_43
theorem dL_law_1108 : decode cL_law 1108 = .ok (.aload_n 1, 1) := dk_43 ((dQ_L_law_69 4).trans dk_j4)
theorem dL_law_1109 : decode cL_law 1109 = .ok (.aload_n 0, 1) := dk_42 ((dQ_L_law_69 5).trans dk_j5)
theorem dL_law_1110 : decode cL_law 1110 = .ok (.iload_n 3, 1) := dk_29 ((dQ_L_law_69 6).trans dk_j6)
theorem dL_law_1111 : decode cL_law 1111 = .ok (.iconst 1, 1) := dk_4 ((dQ_L_law_69 7).trans dk_j7)
theorem dL_law_1112 : decode cL_law 1112 = .ok (.iadd, 1) := dk_96 ((dQ_L_law_69 8).trans dk_j8)
theorem dL_law_1113 : decode cL_law 1113 = .ok (.iaload, 1) := dk_46 ((dQ_L_law_69 9).trans dk_j9)
theorem dk_vu2_0_153 : (0x00 : UInt8).toNat * 256 + (0x99 : UInt8).toNat = (153 : Nat) := by decide +kernel
theorem dL_law_1114 : decode cL_law 1114 = .ok (.invokevirtual 153, 3) := dk_182 ((dQ_L_law_69 10).trans dk_j10) ((dQ_L_law_69 11).trans dk_j11) ((dQ_L_law_69 12).trans dk_j12) dk_vu2_0_153
theorem dL_law_1117 : decode cL_law 1117 = .ok (.pop, 1) := dk_87 ((dQ_L_law_69 13).trans dk_j13)
theorem dL_law_1118 : decode cL_law 1118 = .ok (.aload_n 2, 1) := dk_44 ((dQ_L_law_69 14).trans dk_j14)
theorem dL_law_1119 : decode cL_law 1119 = .ok (.aload_n 0, 1) := dk_42 ((dQ_L_law_69 15).trans dk_j15)
theorem dL_law_1120 : decode cL_law 1120 = .ok (.iload_n 3, 1) := dk_29 ((dQ_L_law_70 0).trans dk_j0)
theorem dL_law_1121 : decode cL_law 1121 = .ok (.iconst 1, 1) := dk_4 ((dQ_L_law_70 1).trans dk_j1)
theorem dL_law_1122 : decode cL_law 1122 = .ok (.iadd, 1) := dk_96 ((dQ_L_law_70 2).trans dk_j2)
theorem dL_law_1123 : decode cL_law 1123 = .ok (.iaload, 1) := dk_46 ((dQ_L_law_70 3).trans dk_j3)
theorem dk_vu2_0_156 : (0x00 : UInt8).toNat * 256 + (0x9c : UInt8).toNat = (156 : Nat) := by decide +kernel
theorem dL_law_1124 : decode cL_law 1124 = .ok (.invokevirtual 156, 3) := dk_182 ((dQ_L_law_70 4).trans dk_j4) ((dQ_L_law_70 5).trans dk_j5) ((dQ_L_law_70 6).trans dk_j6) dk_vu2_0_156
theorem dL_law_1127 : decode cL_law 1127 = .ok (.pop, 1) := dk_87 ((dQ_L_law_70 7).trans dk_j7)
theorem dk_vs2_4_20 : Reader.signed 16 ((0x04 : UInt8).toNat * 256 + (0x14 : UInt8).toNat) = (1044 : Int) := by decide +kernel
theorem dL_law_1128 : decode cL_law 1128 = .ok (.goto 1044, 3) := dk_167 ((dQ_L_law_70 8).trans dk_j8) ((dQ_L_law_70 9).trans dk_j9) ((dQ_L_law_70 10).trans dk_j10) dk_vs2_4_20
theorem dL_law_1131 : decode cL_law 1131 = .ok (.aload_n 1, 1) := dk_43 ((dQ_L_law_70 11).trans dk_j11)
theorem dk_vu2_0_157 : (0x00 : UInt8).toNat * 256 + (0x9d : UInt8).toNat = (157 : Nat) := by decide +kernel
theorem dL_law_1132 : decode cL_law 1132 = .ok (.invokevirtual 157, 3) := dk_182 ((dQ_L_law_70 12).trans dk_j12) ((dQ_L_law_70 13).trans dk_j13) ((dQ_L_law_70 14).trans dk_j14) dk_vu2_0_157
theorem dL_law_1135 : decode cL_law 1135 = .ok (.pop, 1) := dk_87 ((dQ_L_law_70 15).trans dk_j15)
theorem dL_law_1136 : decode cL_law 1136 = .ok (.aload_n 2, 1) := dk_44 ((dQ_L_law_71 0).trans dk_j0)
theorem dk_vu2_0_160 : (0x00 : UInt8).toNat * 256 + (0xa0 : UInt8).toNat = (160 : Nat) := by decide +kernel
theorem dL_law_1137 : decode cL_law 1137 = .ok (.invokevirtual 160, 3) := dk_182 ((dQ_L_law_71 1).trans dk_j1) ((dQ_L_law_71 2).trans dk_j2) ((dQ_L_law_71 3).trans dk_j3) dk_vu2_0_160
theorem dL_law_1140 : decode cL_law 1140 = .ok (.pop, 1) := dk_87 ((dQ_L_law_71 4).trans dk_j4)
theorem dk_vs2_4_7 : Reader.signed 16 ((0x04 : UInt8).toNat * 256 + (0x07 : UInt8).toNat) = (1031 : Int) := by decide +kernel
theorem dL_law_1141 : decode cL_law 1141 = .ok (.goto 1031, 3) := dk_167 ((dQ_L_law_71 5).trans dk_j5) ((dQ_L_law_71 6).trans dk_j6) ((dQ_L_law_71 7).trans dk_j7) dk_vs2_4_7
theorem dL_law_1144 : decode cL_law 1144 = .ok (.aload_n 1, 1) := dk_43 ((dQ_L_law_71 8).trans dk_j8)
theorem dL_law_1145 : decode cL_law 1145 = .ok (.invokevirtual 161, 3) := dk_182 ((dQ_L_law_71 9).trans dk_j9) ((dQ_L_law_71 10).trans dk_j10) ((dQ_L_law_71 11).trans dk_j11) dk_vu2_0_161
theorem dL_law_1148 : decode cL_law 1148 = .ok (.pop, 1) := dk_87 ((dQ_L_law_71 12).trans dk_j12)
theorem dL_law_1149 : decode cL_law 1149 = .ok (.aload_n 2, 1) := dk_44 ((dQ_L_law_71 13).trans dk_j13)
theorem dL_law_1150 : decode cL_law 1150 = .ok (.invokevirtual 164, 3) := dk_182 ((dQ_L_law_71 14).trans dk_j14) ((dQ_L_law_71 15).trans dk_j15) ((dQ_L_law_72 0).trans dk_j0) dk_vu2_0_164
theorem dL_law_1153 : decode cL_law 1153 = .ok (.pop, 1) := dk_87 ((dQ_L_law_72 1).trans dk_j1)
theorem dk_vs2_3_250 : Reader.signed 16 ((0x03 : UInt8).toNat * 256 + (0xfa : UInt8).toNat) = (1018 : Int) := by decide +kernel
theorem dL_law_1154 : decode cL_law 1154 = .ok (.goto 1018, 3) := dk_167 ((dQ_L_law_72 2).trans dk_j2) ((dQ_L_law_72 3).trans dk_j3) ((dQ_L_law_72 4).trans dk_j4) dk_vs2_3_250
theorem dL_law_1157 : decode cL_law 1157 = .ok (.aload_n 1, 1) := dk_43 ((dQ_L_law_72 5).trans dk_j5)
theorem dL_law_1158 : decode cL_law 1158 = .ok (.invokevirtual 165, 3) := dk_182 ((dQ_L_law_72 6).trans dk_j6) ((dQ_L_law_72 7).trans dk_j7) ((dQ_L_law_72 8).trans dk_j8) dk_vu2_0_165
theorem dL_law_1161 : decode cL_law 1161 = .ok (.pop, 1) := dk_87 ((dQ_L_law_72 9).trans dk_j9)
theorem dL_law_1162 : decode cL_law 1162 = .ok (.aload_n 2, 1) := dk_44 ((dQ_L_law_72 10).trans dk_j10)
theorem dL_law_1163 : decode cL_law 1163 = .ok (.invokevirtual 168, 3) := dk_182 ((dQ_L_law_72 11).trans dk_j11) ((dQ_L_law_72 12).trans dk_j12) ((dQ_L_law_72 13).trans dk_j13) dk_vu2_0_168
theorem dL_law_1166 : decode cL_law 1166 = .ok (.pop, 1) := dk_87 ((dQ_L_law_72 14).trans dk_j14)
theorem dk_vs2_3_237 : Reader.signed 16 ((0x03 : UInt8).toNat * 256 + (0xed : UInt8).toNat) = (1005 : Int) := by decide +kernel
theorem dL_law_1167 : decode cL_law 1167 = .ok (.goto 1005, 3) := dk_167 ((dQ_L_law_72 15).trans dk_j15) ((dQ_L_law_73 0).trans dk_j0) ((dQ_L_law_73 1).trans dk_j1) dk_vs2_3_237
theorem dL_law_1170 : decode cL_law 1170 = .ok (.aload_n 1, 1) := dk_43 ((dQ_L_law_73 2).trans dk_j2)
theorem dL_law_1171 : decode cL_law 1171 = .ok (.aload_n 0, 1) := dk_42 ((dQ_L_law_73 3).trans dk_j3)
theorem dL_law_1172 : decode cL_law 1172 = .ok (.iload_n 3, 1) := dk_29 ((dQ_L_law_73 4).trans dk_j4)
theorem dL_law_1173 : decode cL_law 1173 = .ok (.iconst 1, 1) := dk_4 ((dQ_L_law_73 5).trans dk_j5)
theorem dL_law_1174 : decode cL_law 1174 = .ok (.iadd, 1) := dk_96 ((dQ_L_law_73 6).trans dk_j6)
theorem dL_law_1175 : decode cL_law 1175 = .ok (.iaload, 1) := dk_46 ((dQ_L_law_73 7).trans dk_j7)
theorem dk_vu2_0_169 : (0x00 : UInt8).toNat * 256 + (0xa9 : UInt8).toNat = (169 : Nat) := by decide +kernel
theorem dL_law_1176 : decode cL_law 1176 = .ok (.invokevirtual 169, 3) := dk_182 ((dQ_L_law_73 8).trans dk_j8) ((dQ_L_law_73 9).trans dk_j9) ((dQ_L_law_73 10).trans dk_j10) dk_vu2_0_169
theorem dL_law_1179 : decode cL_law 1179 = .ok (.pop, 1) := dk_87 ((dQ_L_law_73 11).trans dk_j11)
theorem dL_law_1180 : decode cL_law 1180 = .ok (.aload_n 2, 1) := dk_44 ((dQ_L_law_73 12).trans dk_j12)
theorem dL_law_1181 : decode cL_law 1181 = .ok (.aload_n 0, 1) := dk_42 ((dQ_L_law_73 13).trans dk_j13)
theorem dL_law_1182 : decode cL_law 1182 = .ok (.iload_n 3, 1) := dk_29 ((dQ_L_law_73 14).trans dk_j14)
theorem dL_law_1183 : decode cL_law 1183 = .ok (.iconst 1, 1) := dk_4 ((dQ_L_law_73 15).trans dk_j15)
theorem dL_law_1184 : decode cL_law 1184 = .ok (.iadd, 1) := dk_96 ((dQ_L_law_74 0).trans dk_j0)
theorem dL_law_1185 : decode cL_law 1185 = .ok (.iaload, 1) := dk_46 ((dQ_L_law_74 1).trans dk_j1)
theorem dL_law_1186 : decode cL_law 1186 = .ok (.invokevirtual 172, 3) := dk_182 ((dQ_L_law_74 2).trans dk_j2) ((dQ_L_law_74 3).trans dk_j3) ((dQ_L_law_74 4).trans dk_j4) dk_vu2_0_172
theorem dL_law_1189 : decode cL_law 1189 = .ok (.pop, 1) := dk_87 ((dQ_L_law_74 5).trans dk_j5)
theorem dk_vs2_3_214 : Reader.signed 16 ((0x03 : UInt8).toNat * 256 + (0xd6 : UInt8).toNat) = (982 : Int) := by decide +kernel
theorem dL_law_1190 : decode cL_law 1190 = .ok (.goto 982, 3) := dk_167 ((dQ_L_law_74 6).trans dk_j6) ((dQ_L_law_74 7).trans dk_j7) ((dQ_L_law_74 8).trans dk_j8) dk_vs2_3_214
theorem dL_law_1193 : decode cL_law 1193 = .ok (.aload_n 1, 1) := dk_43 ((dQ_L_law_74 9).trans dk_j9)
theorem dk_vu2_0_173 : (0x00 : UInt8).toNat * 256 + (0xad : UInt8).toNat = (173 : Nat) := by decide +kernel
theorem dL_law_1194 : decode cL_law 1194 = .ok (.invokevirtual 173, 3) := dk_182 ((dQ_L_law_74 10).trans dk_j10) ((dQ_L_law_74 11).trans dk_j11) ((dQ_L_law_74 12).trans dk_j12) dk_vu2_0_173
theorem dL_law_1197 : decode cL_law 1197 = .ok (.pop, 1) := dk_87 ((dQ_L_law_74 13).trans dk_j13)
theorem dL_law_1198 : decode cL_law 1198 = .ok (.aload_n 2, 1) := dk_44 ((dQ_L_law_74 14).trans dk_j14)
theorem dk_vu2_0_176 : (0x00 : UInt8).toNat * 256 + (0xb0 : UInt8).toNat = (176 : Nat) := by decide +kernel
theorem dL_law_1199 : decode cL_law 1199 = .ok (.invokevirtual 176, 3) := dk_182 ((dQ_L_law_74 15).trans dk_j15) ((dQ_L_law_75 0).trans dk_j0) ((dQ_L_law_75 1).trans dk_j1) dk_vu2_0_176
theorem dL_law_1202 : decode cL_law 1202 = .ok (.pop, 1) := dk_87 ((dQ_L_law_75 2).trans dk_j2)
theorem dk_vs2_3_201 : Reader.signed 16 ((0x03 : UInt8).toNat * 256 + (0xc9 : UInt8).toNat) = (969 : Int) := by decide +kernel
theorem dL_law_1203 : decode cL_law 1203 = .ok (.goto 969, 3) := dk_167 ((dQ_L_law_75 3).trans dk_j3) ((dQ_L_law_75 4).trans dk_j4) ((dQ_L_law_75 5).trans dk_j5) dk_vs2_3_201
theorem dL_law_1206 : decode cL_law 1206 = .ok (.aload_n 1, 1) := dk_43 ((dQ_L_law_75 6).trans dk_j6)
theorem dL_law_1207 : decode cL_law 1207 = .ok (.aload_n 0, 1) := dk_42 ((dQ_L_law_75 7).trans dk_j7)
theorem dL_law_1208 : decode cL_law 1208 = .ok (.iload_n 3, 1) := dk_29 ((dQ_L_law_75 8).trans dk_j8)
theorem dL_law_1209 : decode cL_law 1209 = .ok (.iconst 1, 1) := dk_4 ((dQ_L_law_75 9).trans dk_j9)
theorem dL_law_1210 : decode cL_law 1210 = .ok (.iadd, 1) := dk_96 ((dQ_L_law_75 10).trans dk_j10)
theorem dL_law_1211 : decode cL_law 1211 = .ok (.iaload, 1) := dk_46 ((dQ_L_law_75 11).trans dk_j11)
theorem dL_law_1212 : decode cL_law 1212 = .ok (.invokevirtual 177, 3) := dk_182 ((dQ_L_law_75 12).trans dk_j12) ((dQ_L_law_75 13).trans dk_j13) ((dQ_L_law_75 14).trans dk_j14) dk_vu2_0_177
theorem dL_law_1215 : decode cL_law 1215 = .ok (.pop, 1) := dk_87 ((dQ_L_law_75 15).trans dk_j15)
theorem dL_law_1216 : decode cL_law 1216 = .ok (.aload_n 2, 1) := dk_44 ((dQ_L_law_76 0).trans dk_j0)
theorem dL_law_1217 : decode cL_law 1217 = .ok (.aload_n 0, 1) := dk_42 ((dQ_L_law_76 1).trans dk_j1)
theorem dL_law_1218 : decode cL_law 1218 = .ok (.iload_n 3, 1) := dk_29 ((dQ_L_law_76 2).trans dk_j2)
theorem dL_law_1219 : decode cL_law 1219 = .ok (.iconst 1, 1) := dk_4 ((dQ_L_law_76 3).trans dk_j3)
theorem dL_law_1220 : decode cL_law 1220 = .ok (.iadd, 1) := dk_96 ((dQ_L_law_76 4).trans dk_j4)
theorem dL_law_1221 : decode cL_law 1221 = .ok (.iaload, 1) := dk_46 ((dQ_L_law_76 5).trans dk_j5)
theorem dL_law_1222 : decode cL_law 1222 = .ok (.invokevirtual 180, 3) := dk_182 ((dQ_L_law_76 6).trans dk_j6) ((dQ_L_law_76 7).trans dk_j7) ((dQ_L_law_76 8).trans dk_j8) dk_vu2_0_180
theorem dL_law_1225 : decode cL_law 1225 = .ok (.pop, 1) := dk_87 ((dQ_L_law_76 9).trans dk_j9)
theorem dk_vs2_3_178 : Reader.signed 16 ((0x03 : UInt8).toNat * 256 + (0xb2 : UInt8).toNat) = (946 : Int) := by decide +kernel
theorem dL_law_1226 : decode cL_law 1226 = .ok (.goto 946, 3) := dk_167 ((dQ_L_law_76 10).trans dk_j10) ((dQ_L_law_76 11).trans dk_j11) ((dQ_L_law_76 12).trans dk_j12) dk_vs2_3_178
theorem dL_law_1229 : decode cL_law 1229 = .ok (.aload_n 1, 1) := dk_43 ((dQ_L_law_76 13).trans dk_j13)
theorem dL_law_1230 : decode cL_law 1230 = .ok (.aload_n 0, 1) := dk_42 ((dQ_L_law_76 14).trans dk_j14)
theorem dL_law_1231 : decode cL_law 1231 = .ok (.iload_n 3, 1) := dk_29 ((dQ_L_law_76 15).trans dk_j15)
theorem dL_law_1232 : decode cL_law 1232 = .ok (.iconst 1, 1) := dk_4 ((dQ_L_law_77 0).trans dk_j0)
theorem dL_law_1233 : decode cL_law 1233 = .ok (.iadd, 1) := dk_96 ((dQ_L_law_77 1).trans dk_j1)
theorem dL_law_1234 : decode cL_law 1234 = .ok (.iaload, 1) := dk_46 ((dQ_L_law_77 2).trans dk_j2)
theorem dk_vu2_0_181 : (0x00 : UInt8).toNat * 256 + (0xb5 : UInt8).toNat = (181 : Nat) := by decide +kernel
theorem dL_law_1235 : decode cL_law 1235 = .ok (.invokevirtual 181, 3) := dk_182 ((dQ_L_law_77 3).trans dk_j3) ((dQ_L_law_77 4).trans dk_j4) ((dQ_L_law_77 5).trans dk_j5) dk_vu2_0_181
theorem dL_law_1238 : decode cL_law 1238 = .ok (.pop, 1) := dk_87 ((dQ_L_law_77 6).trans dk_j6)
theorem dL_law_1239 : decode cL_law 1239 = .ok (.aload_n 2, 1) := dk_44 ((dQ_L_law_77 7).trans dk_j7)
theorem dL_law_1240 : decode cL_law 1240 = .ok (.aload_n 0, 1) := dk_42 ((dQ_L_law_77 8).trans dk_j8)
theorem dL_law_1241 : decode cL_law 1241 = .ok (.iload_n 3, 1) := dk_29 ((dQ_L_law_77 9).trans dk_j9)
theorem dL_law_1242 : decode cL_law 1242 = .ok (.iconst 1, 1) := dk_4 ((dQ_L_law_77 10).trans dk_j10)
theorem dL_law_1243 : decode cL_law 1243 = .ok (.iadd, 1) := dk_96 ((dQ_L_law_77 11).trans dk_j11)
theorem dL_law_1244 : decode cL_law 1244 = .ok (.iaload, 1) := dk_46 ((dQ_L_law_77 12).trans dk_j12)
theorem dk_vu2_0_184 : (0x00 : UInt8).toNat * 256 + (0xb8 : UInt8).toNat = (184 : Nat) := by decide +kernel
theorem dL_law_1245 : decode cL_law 1245 = .ok (.invokevirtual 184, 3) := dk_182 ((dQ_L_law_77 13).trans dk_j13) ((dQ_L_law_77 14).trans dk_j14) ((dQ_L_law_77 15).trans dk_j15) dk_vu2_0_184
theorem dL_law_1248 : decode cL_law 1248 = .ok (.pop, 1) := dk_87 ((dQ_L_law_78 0).trans dk_j0)
theorem dk_vs2_3_155 : Reader.signed 16 ((0x03 : UInt8).toNat * 256 + (0x9b : UInt8).toNat) = (923 : Int) := by decide +kernel
theorem dL_law_1249 : decode cL_law 1249 = .ok (.goto 923, 3) := dk_167 ((dQ_L_law_78 1).trans dk_j1) ((dQ_L_law_78 2).trans dk_j2) ((dQ_L_law_78 3).trans dk_j3) dk_vs2_3_155
theorem dL_law_1252 : decode cL_law 1252 = .ok (.aload_n 1, 1) := dk_43 ((dQ_L_law_78 4).trans dk_j4)
theorem dL_law_1253 : decode cL_law 1253 = .ok (.aload_n 0, 1) := dk_42 ((dQ_L_law_78 5).trans dk_j5)
theorem dL_law_1254 : decode cL_law 1254 = .ok (.iload_n 3, 1) := dk_29 ((dQ_L_law_78 6).trans dk_j6)
theorem dL_law_1255 : decode cL_law 1255 = .ok (.iconst 1, 1) := dk_4 ((dQ_L_law_78 7).trans dk_j7)
theorem dL_law_1256 : decode cL_law 1256 = .ok (.iadd, 1) := dk_96 ((dQ_L_law_78 8).trans dk_j8)
theorem dL_law_1257 : decode cL_law 1257 = .ok (.iaload, 1) := dk_46 ((dQ_L_law_78 9).trans dk_j9)
theorem dk_vu2_0_185 : (0x00 : UInt8).toNat * 256 + (0xb9 : UInt8).toNat = (185 : Nat) := by decide +kernel
theorem dL_law_1258 : decode cL_law 1258 = .ok (.invokevirtual 185, 3) := dk_182 ((dQ_L_law_78 10).trans dk_j10) ((dQ_L_law_78 11).trans dk_j11) ((dQ_L_law_78 12).trans dk_j12) dk_vu2_0_185
theorem dL_law_1261 : decode cL_law 1261 = .ok (.pop, 1) := dk_87 ((dQ_L_law_78 13).trans dk_j13)
theorem dL_law_1262 : decode cL_law 1262 = .ok (.aload_n 2, 1) := dk_44 ((dQ_L_law_78 14).trans dk_j14)
theorem dL_law_1263 : decode cL_law 1263 = .ok (.aload_n 0, 1) := dk_42 ((dQ_L_law_78 15).trans dk_j15)
theorem dL_law_1264 : decode cL_law 1264 = .ok (.iload_n 3, 1) := dk_29 ((dQ_L_law_79 0).trans dk_j0)
theorem dL_law_1265 : decode cL_law 1265 = .ok (.iconst 1, 1) := dk_4 ((dQ_L_law_79 1).trans dk_j1)
theorem dL_law_1266 : decode cL_law 1266 = .ok (.iadd, 1) := dk_96 ((dQ_L_law_79 2).trans dk_j2)
theorem dL_law_1267 : decode cL_law 1267 = .ok (.iaload, 1) := dk_46 ((dQ_L_law_79 3).trans dk_j3)
theorem dk_vu2_0_188 : (0x00 : UInt8).toNat * 256 + (0xbc : UInt8).toNat = (188 : Nat) := by decide +kernel
theorem dL_law_1268 : decode cL_law 1268 = .ok (.invokevirtual 188, 3) := dk_182 ((dQ_L_law_79 4).trans dk_j4) ((dQ_L_law_79 5).trans dk_j5) ((dQ_L_law_79 6).trans dk_j6) dk_vu2_0_188
theorem dL_law_1271 : decode cL_law 1271 = .ok (.pop, 1) := dk_87 ((dQ_L_law_79 7).trans dk_j7)
theorem dL_law_1272 : decode cL_law 1272 = .ok (.goto 900, 3) := dk_167 ((dQ_L_law_79 8).trans dk_j8) ((dQ_L_law_79 9).trans dk_j9) ((dQ_L_law_79 10).trans dk_j10) dk_vs2_3_132
theorem dL_law_1275 : decode cL_law 1275 = .ok (.aload_n 1, 1) := dk_43 ((dQ_L_law_79 11).trans dk_j11)
theorem dL_law_1276 : decode cL_law 1276 = .ok (.aload_n 0, 1) := dk_42 ((dQ_L_law_79 12).trans dk_j12)
theorem dL_law_1277 : decode cL_law 1277 = .ok (.iload_n 3, 1) := dk_29 ((dQ_L_law_79 13).trans dk_j13)
theorem dL_law_1278 : decode cL_law 1278 = .ok (.iconst 1, 1) := dk_4 ((dQ_L_law_79 14).trans dk_j14)
theorem dL_law_1279 : decode cL_law 1279 = .ok (.iadd, 1) := dk_96 ((dQ_L_law_79 15).trans dk_j15)
theorem dL_law_1280 : decode cL_law 1280 = .ok (.iaload, 1) := dk_46 ((dQ_L_law_80 0).trans dk_j0)
theorem dL_law_1281 : decode cL_law 1281 = .ok (.invokevirtual 189, 3) := dk_182 ((dQ_L_law_80 1).trans dk_j1) ((dQ_L_law_80 2).trans dk_j2) ((dQ_L_law_80 3).trans dk_j3) dk_vu2_0_189
theorem dL_law_1284 : decode cL_law 1284 = .ok (.pop, 1) := dk_87 ((dQ_L_law_80 4).trans dk_j4)
theorem dL_law_1285 : decode cL_law 1285 = .ok (.aload_n 2, 1) := dk_44 ((dQ_L_law_80 5).trans dk_j5)
theorem dL_law_1286 : decode cL_law 1286 = .ok (.aload_n 0, 1) := dk_42 ((dQ_L_law_80 6).trans dk_j6)
theorem dL_law_1287 : decode cL_law 1287 = .ok (.iload_n 3, 1) := dk_29 ((dQ_L_law_80 7).trans dk_j7)
theorem dL_law_1288 : decode cL_law 1288 = .ok (.iconst 1, 1) := dk_4 ((dQ_L_law_80 8).trans dk_j8)
theorem dL_law_1289 : decode cL_law 1289 = .ok (.iadd, 1) := dk_96 ((dQ_L_law_80 9).trans dk_j9)
theorem dL_law_1290 : decode cL_law 1290 = .ok (.iaload, 1) := dk_46 ((dQ_L_law_80 10).trans dk_j10)
theorem dL_law_1291 : decode cL_law 1291 = .ok (.invokevirtual 192, 3) := dk_182 ((dQ_L_law_80 11).trans dk_j11) ((dQ_L_law_80 12).trans dk_j12) ((dQ_L_law_80 13).trans dk_j13) dk_vu2_0_192
theorem dL_law_1294 : decode cL_law 1294 = .ok (.pop, 1) := dk_87 ((dQ_L_law_80 14).trans dk_j14)
theorem dk_vs2_3_109 : Reader.signed 16 ((0x03 : UInt8).toNat * 256 + (0x6d : UInt8).toNat) = (877 : Int) := by decide +kernel
theorem dL_law_1295 : decode cL_law 1295 = .ok (.goto 877, 3) := dk_167 ((dQ_L_law_80 15).trans dk_j15) ((dQ_L_law_81 0).trans dk_j0) ((dQ_L_law_81 1).trans dk_j1) dk_vs2_3_109
theorem dL_law_1298 : decode cL_law 1298 = .ok (.aload_n 1, 1) := dk_43 ((dQ_L_law_81 2).trans dk_j2)
theorem dL_law_1299 : decode cL_law 1299 = .ok (.aload_n 0, 1) := dk_42 ((dQ_L_law_81 3).trans dk_j3)
theorem dL_law_1300 : decode cL_law 1300 = .ok (.iload_n 3, 1) := dk_29 ((dQ_L_law_81 4).trans dk_j4)
theorem dL_law_1301 : decode cL_law 1301 = .ok (.iconst 1, 1) := dk_4 ((dQ_L_law_81 5).trans dk_j5)
theorem dL_law_1302 : decode cL_law 1302 = .ok (.iadd, 1) := dk_96 ((dQ_L_law_81 6).trans dk_j6)
theorem dL_law_1303 : decode cL_law 1303 = .ok (.iaload, 1) := dk_46 ((dQ_L_law_81 7).trans dk_j7)
theorem dk_vu2_0_193 : (0x00 : UInt8).toNat * 256 + (0xc1 : UInt8).toNat = (193 : Nat) := by decide +kernel
theorem dL_law_1304 : decode cL_law 1304 = .ok (.invokevirtual 193, 3) := dk_182 ((dQ_L_law_81 8).trans dk_j8) ((dQ_L_law_81 9).trans dk_j9) ((dQ_L_law_81 10).trans dk_j10) dk_vu2_0_193
theorem dL_law_1307 : decode cL_law 1307 = .ok (.pop, 1) := dk_87 ((dQ_L_law_81 11).trans dk_j11)
theorem dL_law_1308 : decode cL_law 1308 = .ok (.aload_n 2, 1) := dk_44 ((dQ_L_law_81 12).trans dk_j12)
theorem dL_law_1309 : decode cL_law 1309 = .ok (.aload_n 0, 1) := dk_42 ((dQ_L_law_81 13).trans dk_j13)
theorem dL_law_1310 : decode cL_law 1310 = .ok (.iload_n 3, 1) := dk_29 ((dQ_L_law_81 14).trans dk_j14)
theorem dL_law_1311 : decode cL_law 1311 = .ok (.iconst 1, 1) := dk_4 ((dQ_L_law_81 15).trans dk_j15)
theorem dL_law_1312 : decode cL_law 1312 = .ok (.iadd, 1) := dk_96 ((dQ_L_law_82 0).trans dk_j0)
theorem dL_law_1313 : decode cL_law 1313 = .ok (.iaload, 1) := dk_46 ((dQ_L_law_82 1).trans dk_j1)
theorem dL_law_1314 : decode cL_law 1314 = .ok (.invokevirtual 196, 3) := dk_182 ((dQ_L_law_82 2).trans dk_j2) ((dQ_L_law_82 3).trans dk_j3) ((dQ_L_law_82 4).trans dk_j4) dk_vu2_0_196
theorem dL_law_1317 : decode cL_law 1317 = .ok (.pop, 1) := dk_87 ((dQ_L_law_82 5).trans dk_j5)
theorem dk_vs2_3_86 : Reader.signed 16 ((0x03 : UInt8).toNat * 256 + (0x56 : UInt8).toNat) = (854 : Int) := by decide +kernel
theorem dL_law_1318 : decode cL_law 1318 = .ok (.goto 854, 3) := dk_167 ((dQ_L_law_82 6).trans dk_j6) ((dQ_L_law_82 7).trans dk_j7) ((dQ_L_law_82 8).trans dk_j8) dk_vs2_3_86
theorem dL_law_1321 : decode cL_law 1321 = .ok (.aload_n 1, 1) := dk_43 ((dQ_L_law_82 9).trans dk_j9)
theorem dL_law_1322 : decode cL_law 1322 = .ok (.aload_n 0, 1) := dk_42 ((dQ_L_law_82 10).trans dk_j10)
theorem dL_law_1323 : decode cL_law 1323 = .ok (.iload_n 3, 1) := dk_29 ((dQ_L_law_82 11).trans dk_j11)
theorem dL_law_1324 : decode cL_law 1324 = .ok (.iconst 1, 1) := dk_4 ((dQ_L_law_82 12).trans dk_j12)
theorem dL_law_1325 : decode cL_law 1325 = .ok (.iadd, 1) := dk_96 ((dQ_L_law_82 13).trans dk_j13)
theorem dL_law_1326 : decode cL_law 1326 = .ok (.iaload, 1) := dk_46 ((dQ_L_law_82 14).trans dk_j14)
theorem dk_vu2_0_197 : (0x00 : UInt8).toNat * 256 + (0xc5 : UInt8).toNat = (197 : Nat) := by decide +kernel
theorem dL_law_1327 : decode cL_law 1327 = .ok (.invokevirtual 197, 3) := dk_182 ((dQ_L_law_82 15).trans dk_j15) ((dQ_L_law_83 0).trans dk_j0) ((dQ_L_law_83 1).trans dk_j1) dk_vu2_0_197
theorem dL_law_1330 : decode cL_law 1330 = .ok (.pop, 1) := dk_87 ((dQ_L_law_83 2).trans dk_j2)
theorem dL_law_1331 : decode cL_law 1331 = .ok (.aload_n 2, 1) := dk_44 ((dQ_L_law_83 3).trans dk_j3)
theorem dL_law_1332 : decode cL_law 1332 = .ok (.aload_n 0, 1) := dk_42 ((dQ_L_law_83 4).trans dk_j4)
theorem dL_law_1333 : decode cL_law 1333 = .ok (.iload_n 3, 1) := dk_29 ((dQ_L_law_83 5).trans dk_j5)
theorem dL_law_1334 : decode cL_law 1334 = .ok (.iconst 1, 1) := dk_4 ((dQ_L_law_83 6).trans dk_j6)
theorem dL_law_1335 : decode cL_law 1335 = .ok (.iadd, 1) := dk_96 ((dQ_L_law_83 7).trans dk_j7)
theorem dL_law_1336 : decode cL_law 1336 = .ok (.iaload, 1) := dk_46 ((dQ_L_law_83 8).trans dk_j8)
theorem dk_vu2_0_200 : (0x00 : UInt8).toNat * 256 + (0xc8 : UInt8).toNat = (200 : Nat) := by decide +kernel
theorem dL_law_1337 : decode cL_law 1337 = .ok (.invokevirtual 200, 3) := dk_182 ((dQ_L_law_83 9).trans dk_j9) ((dQ_L_law_83 10).trans dk_j10) ((dQ_L_law_83 11).trans dk_j11) dk_vu2_0_200
theorem dL_law_1340 : decode cL_law 1340 = .ok (.pop, 1) := dk_87 ((dQ_L_law_83 12).trans dk_j12)
theorem dk_vs2_3_63 : Reader.signed 16 ((0x03 : UInt8).toNat * 256 + (0x3f : UInt8).toNat) = (831 : Int) := by decide +kernel
theorem dL_law_1341 : decode cL_law 1341 = .ok (.goto 831, 3) := dk_167 ((dQ_L_law_83 13).trans dk_j13) ((dQ_L_law_83 14).trans dk_j14) ((dQ_L_law_83 15).trans dk_j15) dk_vs2_3_63
theorem dL_law_1344 : decode cL_law 1344 = .ok (.aload_n 1, 1) := dk_43 ((dQ_L_law_84 0).trans dk_j0)
theorem dL_law_1345 : decode cL_law 1345 = .ok (.aload_n 0, 1) := dk_42 ((dQ_L_law_84 1).trans dk_j1)
theorem dL_law_1346 : decode cL_law 1346 = .ok (.iload_n 3, 1) := dk_29 ((dQ_L_law_84 2).trans dk_j2)
theorem dL_law_1347 : decode cL_law 1347 = .ok (.iconst 1, 1) := dk_4 ((dQ_L_law_84 3).trans dk_j3)
theorem dL_law_1348 : decode cL_law 1348 = .ok (.iadd, 1) := dk_96 ((dQ_L_law_84 4).trans dk_j4)
theorem dL_law_1349 : decode cL_law 1349 = .ok (.iaload, 1) := dk_46 ((dQ_L_law_84 5).trans dk_j5)
theorem dk_vu2_0_201 : (0x00 : UInt8).toNat * 256 + (0xc9 : UInt8).toNat = (201 : Nat) := by decide +kernel
theorem dL_law_1350 : decode cL_law 1350 = .ok (.invokevirtual 201, 3) := dk_182 ((dQ_L_law_84 6).trans dk_j6) ((dQ_L_law_84 7).trans dk_j7) ((dQ_L_law_84 8).trans dk_j8) dk_vu2_0_201
theorem dL_law_1353 : decode cL_law 1353 = .ok (.pop, 1) := dk_87 ((dQ_L_law_84 9).trans dk_j9)
theorem dL_law_1354 : decode cL_law 1354 = .ok (.aload_n 2, 1) := dk_44 ((dQ_L_law_84 10).trans dk_j10)
theorem dL_law_1355 : decode cL_law 1355 = .ok (.aload_n 0, 1) := dk_42 ((dQ_L_law_84 11).trans dk_j11)
theorem dL_law_1356 : decode cL_law 1356 = .ok (.iload_n 3, 1) := dk_29 ((dQ_L_law_84 12).trans dk_j12)
theorem dL_law_1357 : decode cL_law 1357 = .ok (.iconst 1, 1) := dk_4 ((dQ_L_law_84 13).trans dk_j13)
theorem dL_law_1358 : decode cL_law 1358 = .ok (.iadd, 1) := dk_96 ((dQ_L_law_84 14).trans dk_j14)
theorem dL_law_1359 : decode cL_law 1359 = .ok (.iaload, 1) := dk_46 ((dQ_L_law_84 15).trans dk_j15)
theorem dk_vu2_0_204 : (0x00 : UInt8).toNat * 256 + (0xcc : UInt8).toNat = (204 : Nat) := by decide +kernel
theorem dL_law_1360 : decode cL_law 1360 = .ok (.invokevirtual 204, 3) := dk_182 ((dQ_L_law_85 0).trans dk_j0) ((dQ_L_law_85 1).trans dk_j1) ((dQ_L_law_85 2).trans dk_j2) dk_vu2_0_204
theorem dL_law_1363 : decode cL_law 1363 = .ok (.pop, 1) := dk_87 ((dQ_L_law_85 3).trans dk_j3)
theorem dk_vs2_3_40 : Reader.signed 16 ((0x03 : UInt8).toNat * 256 + (0x28 : UInt8).toNat) = (808 : Int) := by decide +kernel
theorem dL_law_1364 : decode cL_law 1364 = .ok (.goto 808, 3) := dk_167 ((dQ_L_law_85 4).trans dk_j4) ((dQ_L_law_85 5).trans dk_j5) ((dQ_L_law_85 6).trans dk_j6) dk_vs2_3_40
theorem dL_law_1367 : decode cL_law 1367 = .ok (.aload_n 1, 1) := dk_43 ((dQ_L_law_85 7).trans dk_j7)
theorem dL_law_1368 : decode cL_law 1368 = .ok (.aload_n 0, 1) := dk_42 ((dQ_L_law_85 8).trans dk_j8)
theorem dL_law_1369 : decode cL_law 1369 = .ok (.iload_n 3, 1) := dk_29 ((dQ_L_law_85 9).trans dk_j9)
theorem dL_law_1370 : decode cL_law 1370 = .ok (.iconst 1, 1) := dk_4 ((dQ_L_law_85 10).trans dk_j10)
theorem dL_law_1371 : decode cL_law 1371 = .ok (.iadd, 1) := dk_96 ((dQ_L_law_85 11).trans dk_j11)
theorem dL_law_1372 : decode cL_law 1372 = .ok (.iaload, 1) := dk_46 ((dQ_L_law_85 12).trans dk_j12)
theorem dL_law_1373 : decode cL_law 1373 = .ok (.invokevirtual 205, 3) := dk_182 ((dQ_L_law_85 13).trans dk_j13) ((dQ_L_law_85 14).trans dk_j14) ((dQ_L_law_85 15).trans dk_j15) dk_vu2_0_205
theorem dL_law_1376 : decode cL_law 1376 = .ok (.pop, 1) := dk_87 ((dQ_L_law_86 0).trans dk_j0)
theorem dL_law_1377 : decode cL_law 1377 = .ok (.aload_n 2, 1) := dk_44 ((dQ_L_law_86 1).trans dk_j1)
theorem dL_law_1378 : decode cL_law 1378 = .ok (.aload_n 0, 1) := dk_42 ((dQ_L_law_86 2).trans dk_j2)
theorem dL_law_1379 : decode cL_law 1379 = .ok (.iload_n 3, 1) := dk_29 ((dQ_L_law_86 3).trans dk_j3)
theorem dL_law_1380 : decode cL_law 1380 = .ok (.iconst 1, 1) := dk_4 ((dQ_L_law_86 4).trans dk_j4)
theorem dL_law_1381 : decode cL_law 1381 = .ok (.iadd, 1) := dk_96 ((dQ_L_law_86 5).trans dk_j5)
theorem dL_law_1382 : decode cL_law 1382 = .ok (.iaload, 1) := dk_46 ((dQ_L_law_86 6).trans dk_j6)
theorem dL_law_1383 : decode cL_law 1383 = .ok (.invokevirtual 208, 3) := dk_182 ((dQ_L_law_86 7).trans dk_j7) ((dQ_L_law_86 8).trans dk_j8) ((dQ_L_law_86 9).trans dk_j9) dk_vu2_0_208
theorem dL_law_1386 : decode cL_law 1386 = .ok (.pop, 1) := dk_87 ((dQ_L_law_86 10).trans dk_j10)
theorem dk_vs2_3_17 : Reader.signed 16 ((0x03 : UInt8).toNat * 256 + (0x11 : UInt8).toNat) = (785 : Int) := by decide +kernel
theorem dL_law_1387 : decode cL_law 1387 = .ok (.goto 785, 3) := dk_167 ((dQ_L_law_86 11).trans dk_j11) ((dQ_L_law_86 12).trans dk_j12) ((dQ_L_law_86 13).trans dk_j13) dk_vs2_3_17
theorem dL_law_1390 : decode cL_law 1390 = .ok (.aload_n 1, 1) := dk_43 ((dQ_L_law_86 14).trans dk_j14)
theorem dL_law_1391 : decode cL_law 1391 = .ok (.aload_n 0, 1) := dk_42 ((dQ_L_law_86 15).trans dk_j15)
theorem dL_law_1392 : decode cL_law 1392 = .ok (.iload_n 3, 1) := dk_29 ((dQ_L_law_87 0).trans dk_j0)
theorem dL_law_1393 : decode cL_law 1393 = .ok (.iconst 1, 1) := dk_4 ((dQ_L_law_87 1).trans dk_j1)
theorem dL_law_1394 : decode cL_law 1394 = .ok (.iadd, 1) := dk_96 ((dQ_L_law_87 2).trans dk_j2)
theorem dL_law_1395 : decode cL_law 1395 = .ok (.iaload, 1) := dk_46 ((dQ_L_law_87 3).trans dk_j3)
theorem dL_law_1396 : decode cL_law 1396 = .ok (.invokevirtual 209, 3) := dk_182 ((dQ_L_law_87 4).trans dk_j4) ((dQ_L_law_87 5).trans dk_j5) ((dQ_L_law_87 6).trans dk_j6) dk_vu2_0_209
theorem dL_law_1399 : decode cL_law 1399 = .ok (.pop, 1) := dk_87 ((dQ_L_law_87 7).trans dk_j7)
theorem dL_law_1400 : decode cL_law 1400 = .ok (.aload_n 2, 1) := dk_44 ((dQ_L_law_87 8).trans dk_j8)
theorem dL_law_1401 : decode cL_law 1401 = .ok (.aload_n 0, 1) := dk_42 ((dQ_L_law_87 9).trans dk_j9)
theorem dL_law_1402 : decode cL_law 1402 = .ok (.iload_n 3, 1) := dk_29 ((dQ_L_law_87 10).trans dk_j10)
theorem dL_law_1403 : decode cL_law 1403 = .ok (.iconst 1, 1) := dk_4 ((dQ_L_law_87 11).trans dk_j11)
theorem dL_law_1404 : decode cL_law 1404 = .ok (.iadd, 1) := dk_96 ((dQ_L_law_87 12).trans dk_j12)
theorem dL_law_1405 : decode cL_law 1405 = .ok (.iaload, 1) := dk_46 ((dQ_L_law_87 13).trans dk_j13)
theorem dL_law_1406 : decode cL_law 1406 = .ok (.invokevirtual 212, 3) := dk_182 ((dQ_L_law_87 14).trans dk_j14) ((dQ_L_law_87 15).trans dk_j15) ((dQ_L_law_88 0).trans dk_j0) dk_vu2_0_212
theorem dL_law_1409 : decode cL_law 1409 = .ok (.pop, 1) := dk_87 ((dQ_L_law_88 1).trans dk_j1)
theorem dk_vs2_2_250 : Reader.signed 16 ((0x02 : UInt8).toNat * 256 + (0xfa : UInt8).toNat) = (762 : Int) := by decide +kernel
theorem dL_law_1410 : decode cL_law 1410 = .ok (.goto 762, 3) := dk_167 ((dQ_L_law_88 2).trans dk_j2) ((dQ_L_law_88 3).trans dk_j3) ((dQ_L_law_88 4).trans dk_j4) dk_vs2_2_250
theorem dL_law_1413 : decode cL_law 1413 = .ok (.aload_n 1, 1) := dk_43 ((dQ_L_law_88 5).trans dk_j5)
theorem dL_law_1414 : decode cL_law 1414 = .ok (.aload_n 0, 1) := dk_42 ((dQ_L_law_88 6).trans dk_j6)
theorem dL_law_1415 : decode cL_law 1415 = .ok (.iload_n 3, 1) := dk_29 ((dQ_L_law_88 7).trans dk_j7)
theorem dL_law_1416 : decode cL_law 1416 = .ok (.iconst 1, 1) := dk_4 ((dQ_L_law_88 8).trans dk_j8)
theorem dL_law_1417 : decode cL_law 1417 = .ok (.iadd, 1) := dk_96 ((dQ_L_law_88 9).trans dk_j9)
theorem dL_law_1418 : decode cL_law 1418 = .ok (.iaload, 1) := dk_46 ((dQ_L_law_88 10).trans dk_j10)
theorem dk_vu2_0_213 : (0x00 : UInt8).toNat * 256 + (0xd5 : UInt8).toNat = (213 : Nat) := by decide +kernel
theorem dL_law_1419 : decode cL_law 1419 = .ok (.invokevirtual 213, 3) := dk_182 ((dQ_L_law_88 11).trans dk_j11) ((dQ_L_law_88 12).trans dk_j12) ((dQ_L_law_88 13).trans dk_j13) dk_vu2_0_213
theorem dL_law_1422 : decode cL_law 1422 = .ok (.pop, 1) := dk_87 ((dQ_L_law_88 14).trans dk_j14)
theorem dL_law_1423 : decode cL_law 1423 = .ok (.aload_n 2, 1) := dk_44 ((dQ_L_law_88 15).trans dk_j15)
theorem dL_law_1424 : decode cL_law 1424 = .ok (.aload_n 0, 1) := dk_42 ((dQ_L_law_89 0).trans dk_j0)
theorem dL_law_1425 : decode cL_law 1425 = .ok (.iload_n 3, 1) := dk_29 ((dQ_L_law_89 1).trans dk_j1)
theorem dL_law_1426 : decode cL_law 1426 = .ok (.iconst 1, 1) := dk_4 ((dQ_L_law_89 2).trans dk_j2)
theorem dL_law_1427 : decode cL_law 1427 = .ok (.iadd, 1) := dk_96 ((dQ_L_law_89 3).trans dk_j3)
theorem dL_law_1428 : decode cL_law 1428 = .ok (.iaload, 1) := dk_46 ((dQ_L_law_89 4).trans dk_j4)
theorem dk_vu2_0_216 : (0x00 : UInt8).toNat * 256 + (0xd8 : UInt8).toNat = (216 : Nat) := by decide +kernel
theorem dL_law_1429 : decode cL_law 1429 = .ok (.invokevirtual 216, 3) := dk_182 ((dQ_L_law_89 5).trans dk_j5) ((dQ_L_law_89 6).trans dk_j6) ((dQ_L_law_89 7).trans dk_j7) dk_vu2_0_216
theorem dL_law_1432 : decode cL_law 1432 = .ok (.pop, 1) := dk_87 ((dQ_L_law_89 8).trans dk_j8)
theorem dk_vs2_2_227 : Reader.signed 16 ((0x02 : UInt8).toNat * 256 + (0xe3 : UInt8).toNat) = (739 : Int) := by decide +kernel
theorem dL_law_1433 : decode cL_law 1433 = .ok (.goto 739, 3) := dk_167 ((dQ_L_law_89 9).trans dk_j9) ((dQ_L_law_89 10).trans dk_j10) ((dQ_L_law_89 11).trans dk_j11) dk_vs2_2_227
theorem dL_law_1436 : decode cL_law 1436 = .ok (.aload_n 1, 1) := dk_43 ((dQ_L_law_89 12).trans dk_j12)
theorem dL_law_1437 : decode cL_law 1437 = .ok (.aload_n 0, 1) := dk_42 ((dQ_L_law_89 13).trans dk_j13)
theorem dL_law_1438 : decode cL_law 1438 = .ok (.iload_n 3, 1) := dk_29 ((dQ_L_law_89 14).trans dk_j14)
theorem dL_law_1439 : decode cL_law 1439 = .ok (.iconst 1, 1) := dk_4 ((dQ_L_law_89 15).trans dk_j15)
theorem dL_law_1440 : decode cL_law 1440 = .ok (.iadd, 1) := dk_96 ((dQ_L_law_90 0).trans dk_j0)
theorem dL_law_1441 : decode cL_law 1441 = .ok (.iaload, 1) := dk_46 ((dQ_L_law_90 1).trans dk_j1)
theorem dk_vu2_0_217 : (0x00 : UInt8).toNat * 256 + (0xd9 : UInt8).toNat = (217 : Nat) := by decide +kernel
theorem dL_law_1442 : decode cL_law 1442 = .ok (.invokevirtual 217, 3) := dk_182 ((dQ_L_law_90 2).trans dk_j2) ((dQ_L_law_90 3).trans dk_j3) ((dQ_L_law_90 4).trans dk_j4) dk_vu2_0_217
theorem dL_law_1445 : decode cL_law 1445 = .ok (.pop, 1) := dk_87 ((dQ_L_law_90 5).trans dk_j5)
theorem dL_law_1446 : decode cL_law 1446 = .ok (.aload_n 2, 1) := dk_44 ((dQ_L_law_90 6).trans dk_j6)
theorem dL_law_1447 : decode cL_law 1447 = .ok (.aload_n 0, 1) := dk_42 ((dQ_L_law_90 7).trans dk_j7)
theorem dL_law_1448 : decode cL_law 1448 = .ok (.iload_n 3, 1) := dk_29 ((dQ_L_law_90 8).trans dk_j8)
theorem dL_law_1449 : decode cL_law 1449 = .ok (.iconst 1, 1) := dk_4 ((dQ_L_law_90 9).trans dk_j9)
theorem dL_law_1450 : decode cL_law 1450 = .ok (.iadd, 1) := dk_96 ((dQ_L_law_90 10).trans dk_j10)
theorem dL_law_1451 : decode cL_law 1451 = .ok (.iaload, 1) := dk_46 ((dQ_L_law_90 11).trans dk_j11)
theorem dk_vu2_0_220 : (0x00 : UInt8).toNat * 256 + (0xdc : UInt8).toNat = (220 : Nat) := by decide +kernel
theorem dL_law_1452 : decode cL_law 1452 = .ok (.invokevirtual 220, 3) := dk_182 ((dQ_L_law_90 12).trans dk_j12) ((dQ_L_law_90 13).trans dk_j13) ((dQ_L_law_90 14).trans dk_j14) dk_vu2_0_220
theorem dL_law_1455 : decode cL_law 1455 = .ok (.pop, 1) := dk_87 ((dQ_L_law_90 15).trans dk_j15)
theorem dk_vs2_2_204 : Reader.signed 16 ((0x02 : UInt8).toNat * 256 + (0xcc : UInt8).toNat) = (716 : Int) := by decide +kernel
theorem dL_law_1456 : decode cL_law 1456 = .ok (.goto 716, 3) := dk_167 ((dQ_L_law_91 0).trans dk_j0) ((dQ_L_law_91 1).trans dk_j1) ((dQ_L_law_91 2).trans dk_j2) dk_vs2_2_204
theorem dL_law_1459 : decode cL_law 1459 = .ok (.aload_n 1, 1) := dk_43 ((dQ_L_law_91 3).trans dk_j3)
theorem dL_law_1460 : decode cL_law 1460 = .ok (.aload_n 0, 1) := dk_42 ((dQ_L_law_91 4).trans dk_j4)
theorem dL_law_1461 : decode cL_law 1461 = .ok (.iload_n 3, 1) := dk_29 ((dQ_L_law_91 5).trans dk_j5)
theorem dL_law_1462 : decode cL_law 1462 = .ok (.iconst 1, 1) := dk_4 ((dQ_L_law_91 6).trans dk_j6)
theorem dL_law_1463 : decode cL_law 1463 = .ok (.iadd, 1) := dk_96 ((dQ_L_law_91 7).trans dk_j7)
theorem dL_law_1464 : decode cL_law 1464 = .ok (.iaload, 1) := dk_46 ((dQ_L_law_91 8).trans dk_j8)
theorem dL_law_1465 : decode cL_law 1465 = .ok (.invokevirtual 221, 3) := dk_182 ((dQ_L_law_91 9).trans dk_j9) ((dQ_L_law_91 10).trans dk_j10) ((dQ_L_law_91 11).trans dk_j11) dk_vu2_0_221
theorem dL_law_1468 : decode cL_law 1468 = .ok (.pop, 1) := dk_87 ((dQ_L_law_91 12).trans dk_j12)
theorem dL_law_1469 : decode cL_law 1469 = .ok (.aload_n 2, 1) := dk_44 ((dQ_L_law_91 13).trans dk_j13)
theorem dL_law_1470 : decode cL_law 1470 = .ok (.aload_n 0, 1) := dk_42 ((dQ_L_law_91 14).trans dk_j14)
theorem dL_law_1471 : decode cL_law 1471 = .ok (.iload_n 3, 1) := dk_29 ((dQ_L_law_91 15).trans dk_j15)
theorem dL_law_1472 : decode cL_law 1472 = .ok (.iconst 1, 1) := dk_4 ((dQ_L_law_92 0).trans dk_j0)
theorem dL_law_1473 : decode cL_law 1473 = .ok (.iadd, 1) := dk_96 ((dQ_L_law_92 1).trans dk_j1)
theorem dL_law_1474 : decode cL_law 1474 = .ok (.iaload, 1) := dk_46 ((dQ_L_law_92 2).trans dk_j2)
theorem dL_law_1475 : decode cL_law 1475 = .ok (.invokevirtual 224, 3) := dk_182 ((dQ_L_law_92 3).trans dk_j3) ((dQ_L_law_92 4).trans dk_j4) ((dQ_L_law_92 5).trans dk_j5) dk_vu2_0_224
theorem dL_law_1478 : decode cL_law 1478 = .ok (.pop, 1) := dk_87 ((dQ_L_law_92 6).trans dk_j6)
theorem dk_vs2_2_181 : Reader.signed 16 ((0x02 : UInt8).toNat * 256 + (0xb5 : UInt8).toNat) = (693 : Int) := by decide +kernel
theorem dL_law_1479 : decode cL_law 1479 = .ok (.goto 693, 3) := dk_167 ((dQ_L_law_92 7).trans dk_j7) ((dQ_L_law_92 8).trans dk_j8) ((dQ_L_law_92 9).trans dk_j9) dk_vs2_2_181
theorem dL_law_1482 : decode cL_law 1482 = .ok (.aload_n 1, 1) := dk_43 ((dQ_L_law_92 10).trans dk_j10)
theorem dL_law_1483 : decode cL_law 1483 = .ok (.aload_n 0, 1) := dk_42 ((dQ_L_law_92 11).trans dk_j11)
theorem dL_law_1484 : decode cL_law 1484 = .ok (.iload_n 3, 1) := dk_29 ((dQ_L_law_92 12).trans dk_j12)
theorem dL_law_1485 : decode cL_law 1485 = .ok (.iconst 1, 1) := dk_4 ((dQ_L_law_92 13).trans dk_j13)
theorem dL_law_1486 : decode cL_law 1486 = .ok (.iadd, 1) := dk_96 ((dQ_L_law_92 14).trans dk_j14)
theorem dL_law_1487 : decode cL_law 1487 = .ok (.iaload, 1) := dk_46 ((dQ_L_law_92 15).trans dk_j15)
theorem dL_law_1488 : decode cL_law 1488 = .ok (.aload_n 0, 1) := dk_42 ((dQ_L_law_93 0).trans dk_j0)
theorem dL_law_1489 : decode cL_law 1489 = .ok (.iload_n 3, 1) := dk_29 ((dQ_L_law_93 1).trans dk_j1)
theorem dL_law_1490 : decode cL_law 1490 = .ok (.iconst 2, 1) := dk_5 ((dQ_L_law_93 2).trans dk_j2)
theorem dL_law_1491 : decode cL_law 1491 = .ok (.iadd, 1) := dk_96 ((dQ_L_law_93 3).trans dk_j3)
theorem dL_law_1492 : decode cL_law 1492 = .ok (.iaload, 1) := dk_46 ((dQ_L_law_93 4).trans dk_j4)
theorem dL_law_1493 : decode cL_law 1493 = .ok (.invokevirtual 225, 3) := dk_182 ((dQ_L_law_93 5).trans dk_j5) ((dQ_L_law_93 6).trans dk_j6) ((dQ_L_law_93 7).trans dk_j7) dk_vu2_0_225
theorem dL_law_1496 : decode cL_law 1496 = .ok (.pop, 1) := dk_87 ((dQ_L_law_93 8).trans dk_j8)
theorem dL_law_1497 : decode cL_law 1497 = .ok (.aload_n 2, 1) := dk_44 ((dQ_L_law_93 9).trans dk_j9)
theorem dL_law_1498 : decode cL_law 1498 = .ok (.aload_n 0, 1) := dk_42 ((dQ_L_law_93 10).trans dk_j10)
theorem dL_law_1499 : decode cL_law 1499 = .ok (.iload_n 3, 1) := dk_29 ((dQ_L_law_93 11).trans dk_j11)
theorem dL_law_1500 : decode cL_law 1500 = .ok (.iconst 1, 1) := dk_4 ((dQ_L_law_93 12).trans dk_j12)
theorem dL_law_1501 : decode cL_law 1501 = .ok (.iadd, 1) := dk_96 ((dQ_L_law_93 13).trans dk_j13)
theorem dL_law_1502 : decode cL_law 1502 = .ok (.iaload, 1) := dk_46 ((dQ_L_law_93 14).trans dk_j14)
theorem dL_law_1503 : decode cL_law 1503 = .ok (.aload_n 0, 1) := dk_42 ((dQ_L_law_93 15).trans dk_j15)
theorem dL_law_1504 : decode cL_law 1504 = .ok (.iload_n 3, 1) := dk_29 ((dQ_L_law_94 0).trans dk_j0)
theorem dL_law_1505 : decode cL_law 1505 = .ok (.iconst 2, 1) := dk_5 ((dQ_L_law_94 1).trans dk_j1)
theorem dL_law_1506 : decode cL_law 1506 = .ok (.iadd, 1) := dk_96 ((dQ_L_law_94 2).trans dk_j2)
theorem dL_law_1507 : decode cL_law 1507 = .ok (.iaload, 1) := dk_46 ((dQ_L_law_94 3).trans dk_j3)
theorem dL_law_1508 : decode cL_law 1508 = .ok (.invokevirtual 228, 3) := dk_182 ((dQ_L_law_94 4).trans dk_j4) ((dQ_L_law_94 5).trans dk_j5) ((dQ_L_law_94 6).trans dk_j6) dk_vu2_0_228
theorem dL_law_1511 : decode cL_law 1511 = .ok (.pop, 1) := dk_87 ((dQ_L_law_94 7).trans dk_j7)
theorem dk_vs2_2_148 : Reader.signed 16 ((0x02 : UInt8).toNat * 256 + (0x94 : UInt8).toNat) = (660 : Int) := by decide +kernel
theorem dL_law_1512 : decode cL_law 1512 = .ok (.goto 660, 3) := dk_167 ((dQ_L_law_94 8).trans dk_j8) ((dQ_L_law_94 9).trans dk_j9) ((dQ_L_law_94 10).trans dk_j10) dk_vs2_2_148
theorem dL_law_1515 : decode cL_law 1515 = .ok (.aload_n 1, 1) := dk_43 ((dQ_L_law_94 11).trans dk_j11)
theorem dL_law_1516 : decode cL_law 1516 = .ok (.aload_n 0, 1) := dk_42 ((dQ_L_law_94 12).trans dk_j12)
theorem dL_law_1517 : decode cL_law 1517 = .ok (.iload_n 3, 1) := dk_29 ((dQ_L_law_94 13).trans dk_j13)
theorem dL_law_1518 : decode cL_law 1518 = .ok (.iconst 1, 1) := dk_4 ((dQ_L_law_94 14).trans dk_j14)
theorem dL_law_1519 : decode cL_law 1519 = .ok (.iadd, 1) := dk_96 ((dQ_L_law_94 15).trans dk_j15)
theorem dL_law_1520 : decode cL_law 1520 = .ok (.iaload, 1) := dk_46 ((dQ_L_law_95 0).trans dk_j0)
theorem dL_law_1521 : decode cL_law 1521 = .ok (.aload_n 0, 1) := dk_42 ((dQ_L_law_95 1).trans dk_j1)
theorem dL_law_1522 : decode cL_law 1522 = .ok (.iload_n 3, 1) := dk_29 ((dQ_L_law_95 2).trans dk_j2)
theorem dL_law_1523 : decode cL_law 1523 = .ok (.iconst 2, 1) := dk_5 ((dQ_L_law_95 3).trans dk_j3)
theorem dL_law_1524 : decode cL_law 1524 = .ok (.iadd, 1) := dk_96 ((dQ_L_law_95 4).trans dk_j4)
theorem dL_law_1525 : decode cL_law 1525 = .ok (.iaload, 1) := dk_46 ((dQ_L_law_95 5).trans dk_j5)
theorem dL_law_1526 : decode cL_law 1526 = .ok (.aload_n 0, 1) := dk_42 ((dQ_L_law_95 6).trans dk_j6)
theorem dL_law_1527 : decode cL_law 1527 = .ok (.iload_n 3, 1) := dk_29 ((dQ_L_law_95 7).trans dk_j7)
theorem dL_law_1528 : decode cL_law 1528 = .ok (.iconst 3, 1) := dk_6 ((dQ_L_law_95 8).trans dk_j8)
theorem dL_law_1529 : decode cL_law 1529 = .ok (.iadd, 1) := dk_96 ((dQ_L_law_95 9).trans dk_j9)
theorem dL_law_1530 : decode cL_law 1530 = .ok (.iaload, 1) := dk_46 ((dQ_L_law_95 10).trans dk_j10)
theorem dL_law_1531 : decode cL_law 1531 = .ok (.aload_n 0, 1) := dk_42 ((dQ_L_law_95 11).trans dk_j11)
theorem dL_law_1532 : decode cL_law 1532 = .ok (.iload_n 3, 1) := dk_29 ((dQ_L_law_95 12).trans dk_j12)
theorem dL_law_1533 : decode cL_law 1533 = .ok (.iconst 4, 1) := dk_7 ((dQ_L_law_95 13).trans dk_j13)
theorem dL_law_1534 : decode cL_law 1534 = .ok (.iadd, 1) := dk_96 ((dQ_L_law_95 14).trans dk_j14)
theorem dL_law_1535 : decode cL_law 1535 = .ok (.iaload, 1) := dk_46 ((dQ_L_law_95 15).trans dk_j15)
theorem dk_vu2_0_229 : (0x00 : UInt8).toNat * 256 + (0xe5 : UInt8).toNat = (229 : Nat) := by decide +kernel
theorem dL_law_1536 : decode cL_law 1536 = .ok (.invokevirtual 229, 3) := dk_182 ((dQ_L_law_96 0).trans dk_j0) ((dQ_L_law_96 1).trans dk_j1) ((dQ_L_law_96 2).trans dk_j2) dk_vu2_0_229
theorem dL_law_1539 : decode cL_law 1539 = .ok (.pop, 1) := dk_87 ((dQ_L_law_96 3).trans dk_j3)
theorem dL_law_1540 : decode cL_law 1540 = .ok (.aload_n 2, 1) := dk_44 ((dQ_L_law_96 4).trans dk_j4)
theorem dL_law_1541 : decode cL_law 1541 = .ok (.aload_n 0, 1) := dk_42 ((dQ_L_law_96 5).trans dk_j5)
theorem dL_law_1542 : decode cL_law 1542 = .ok (.iload_n 3, 1) := dk_29 ((dQ_L_law_96 6).trans dk_j6)
theorem dL_law_1543 : decode cL_law 1543 = .ok (.iconst 1, 1) := dk_4 ((dQ_L_law_96 7).trans dk_j7)
theorem dL_law_1544 : decode cL_law 1544 = .ok (.iadd, 1) := dk_96 ((dQ_L_law_96 8).trans dk_j8)
theorem dL_law_1545 : decode cL_law 1545 = .ok (.iaload, 1) := dk_46 ((dQ_L_law_96 9).trans dk_j9)
theorem dL_law_1546 : decode cL_law 1546 = .ok (.aload_n 0, 1) := dk_42 ((dQ_L_law_96 10).trans dk_j10)
theorem dL_law_1547 : decode cL_law 1547 = .ok (.iload_n 3, 1) := dk_29 ((dQ_L_law_96 11).trans dk_j11)
theorem dL_law_1548 : decode cL_law 1548 = .ok (.iconst 2, 1) := dk_5 ((dQ_L_law_96 12).trans dk_j12)
theorem dL_law_1549 : decode cL_law 1549 = .ok (.iadd, 1) := dk_96 ((dQ_L_law_96 13).trans dk_j13)
theorem dL_law_1550 : decode cL_law 1550 = .ok (.iaload, 1) := dk_46 ((dQ_L_law_96 14).trans dk_j14)
theorem dL_law_1551 : decode cL_law 1551 = .ok (.aload_n 0, 1) := dk_42 ((dQ_L_law_96 15).trans dk_j15)
theorem dL_law_1552 : decode cL_law 1552 = .ok (.iload_n 3, 1) := dk_29 ((dQ_L_law_97 0).trans dk_j0)
theorem dL_law_1553 : decode cL_law 1553 = .ok (.iconst 3, 1) := dk_6 ((dQ_L_law_97 1).trans dk_j1)
theorem dL_law_1554 : decode cL_law 1554 = .ok (.iadd, 1) := dk_96 ((dQ_L_law_97 2).trans dk_j2)
theorem dL_law_1555 : decode cL_law 1555 = .ok (.iaload, 1) := dk_46 ((dQ_L_law_97 3).trans dk_j3)
theorem dL_law_1556 : decode cL_law 1556 = .ok (.aload_n 0, 1) := dk_42 ((dQ_L_law_97 4).trans dk_j4)
theorem dL_law_1557 : decode cL_law 1557 = .ok (.iload_n 3, 1) := dk_29 ((dQ_L_law_97 5).trans dk_j5)
theorem dL_law_1558 : decode cL_law 1558 = .ok (.iconst 4, 1) := dk_7 ((dQ_L_law_97 6).trans dk_j6)
theorem dL_law_1559 : decode cL_law 1559 = .ok (.iadd, 1) := dk_96 ((dQ_L_law_97 7).trans dk_j7)
theorem dL_law_1560 : decode cL_law 1560 = .ok (.iaload, 1) := dk_46 ((dQ_L_law_97 8).trans dk_j8)
theorem dk_vu2_0_233 : (0x00 : UInt8).toNat * 256 + (0xe9 : UInt8).toNat = (233 : Nat) := by decide +kernel
theorem dL_law_1561 : decode cL_law 1561 = .ok (.invokevirtual 233, 3) := dk_182 ((dQ_L_law_97 9).trans dk_j9) ((dQ_L_law_97 10).trans dk_j10) ((dQ_L_law_97 11).trans dk_j11) dk_vu2_0_233
theorem dL_law_1564 : decode cL_law 1564 = .ok (.pop, 1) := dk_87 ((dQ_L_law_97 12).trans dk_j12)
theorem dk_vs2_2_95 : Reader.signed 16 ((0x02 : UInt8).toNat * 256 + (0x5f : UInt8).toNat) = (607 : Int) := by decide +kernel
theorem dL_law_1565 : decode cL_law 1565 = .ok (.goto 607, 3) := dk_167 ((dQ_L_law_97 13).trans dk_j13) ((dQ_L_law_97 14).trans dk_j14) ((dQ_L_law_97 15).trans dk_j15) dk_vs2_2_95
theorem dL_law_1568 : decode cL_law 1568 = .ok (.aload_n 1, 1) := dk_43 ((dQ_L_law_98 0).trans dk_j0)
theorem dL_law_1569 : decode cL_law 1569 = .ok (.aload_n 0, 1) := dk_42 ((dQ_L_law_98 1).trans dk_j1)
theorem dL_law_1570 : decode cL_law 1570 = .ok (.iload_n 3, 1) := dk_29 ((dQ_L_law_98 2).trans dk_j2)
theorem dL_law_1571 : decode cL_law 1571 = .ok (.iconst 1, 1) := dk_4 ((dQ_L_law_98 3).trans dk_j3)
theorem dL_law_1572 : decode cL_law 1572 = .ok (.iadd, 1) := dk_96 ((dQ_L_law_98 4).trans dk_j4)
theorem dL_law_1573 : decode cL_law 1573 = .ok (.iaload, 1) := dk_46 ((dQ_L_law_98 5).trans dk_j5)
theorem dL_law_1574 : decode cL_law 1574 = .ok (.invokevirtual 234, 3) := dk_182 ((dQ_L_law_98 6).trans dk_j6) ((dQ_L_law_98 7).trans dk_j7) ((dQ_L_law_98 8).trans dk_j8) dk_vu2_0_234
theorem dL_law_1577 : decode cL_law 1577 = .ok (.pop, 1) := dk_87 ((dQ_L_law_98 9).trans dk_j9)
theorem dL_law_1578 : decode cL_law 1578 = .ok (.aload_n 2, 1) := dk_44 ((dQ_L_law_98 10).trans dk_j10)
theorem dL_law_1579 : decode cL_law 1579 = .ok (.aload_n 0, 1) := dk_42 ((dQ_L_law_98 11).trans dk_j11)
theorem dL_law_1580 : decode cL_law 1580 = .ok (.iload_n 3, 1) := dk_29 ((dQ_L_law_98 12).trans dk_j12)
theorem dL_law_1581 : decode cL_law 1581 = .ok (.iconst 1, 1) := dk_4 ((dQ_L_law_98 13).trans dk_j13)
theorem dL_law_1582 : decode cL_law 1582 = .ok (.iadd, 1) := dk_96 ((dQ_L_law_98 14).trans dk_j14)
theorem dL_law_1583 : decode cL_law 1583 = .ok (.iaload, 1) := dk_46 ((dQ_L_law_98 15).trans dk_j15)
theorem dL_law_1584 : decode cL_law 1584 = .ok (.invokevirtual 237, 3) := dk_182 ((dQ_L_law_99 0).trans dk_j0) ((dQ_L_law_99 1).trans dk_j1) ((dQ_L_law_99 2).trans dk_j2) dk_vu2_0_237
theorem dL_law_1587 : decode cL_law 1587 = .ok (.pop, 1) := dk_87 ((dQ_L_law_99 3).trans dk_j3)
theorem dk_vs2_2_72 : Reader.signed 16 ((0x02 : UInt8).toNat * 256 + (0x48 : UInt8).toNat) = (584 : Int) := by decide +kernel
theorem dL_law_1588 : decode cL_law 1588 = .ok (.goto 584, 3) := dk_167 ((dQ_L_law_99 4).trans dk_j4) ((dQ_L_law_99 5).trans dk_j5) ((dQ_L_law_99 6).trans dk_j6) dk_vs2_2_72
theorem dL_law_1591 : decode cL_law 1591 = .ok (.aload_n 1, 1) := dk_43 ((dQ_L_law_99 7).trans dk_j7)
theorem dL_law_1592 : decode cL_law 1592 = .ok (.invokevirtual 238, 3) := dk_182 ((dQ_L_law_99 8).trans dk_j8) ((dQ_L_law_99 9).trans dk_j9) ((dQ_L_law_99 10).trans dk_j10) dk_vu2_0_238
theorem dL_law_1595 : decode cL_law 1595 = .ok (.pop, 1) := dk_87 ((dQ_L_law_99 11).trans dk_j11)
theorem dL_law_1596 : decode cL_law 1596 = .ok (.aload_n 2, 1) := dk_44 ((dQ_L_law_99 12).trans dk_j12)
theorem dL_law_1597 : decode cL_law 1597 = .ok (.invokevirtual 241, 3) := dk_182 ((dQ_L_law_99 13).trans dk_j13) ((dQ_L_law_99 14).trans dk_j14) ((dQ_L_law_99 15).trans dk_j15) dk_vu2_0_241
theorem dL_law_1600 : decode cL_law 1600 = .ok (.pop, 1) := dk_87 ((dQ_L_law_100 0).trans dk_j0)
theorem dk_vs2_2_59 : Reader.signed 16 ((0x02 : UInt8).toNat * 256 + (0x3b : UInt8).toNat) = (571 : Int) := by decide +kernel
theorem dL_law_1601 : decode cL_law 1601 = .ok (.goto 571, 3) := dk_167 ((dQ_L_law_100 1).trans dk_j1) ((dQ_L_law_100 2).trans dk_j2) ((dQ_L_law_100 3).trans dk_j3) dk_vs2_2_59
theorem dL_law_1604 : decode cL_law 1604 = .ok (.aload_n 1, 1) := dk_43 ((dQ_L_law_100 4).trans dk_j4)
theorem dL_law_1605 : decode cL_law 1605 = .ok (.aload_n 0, 1) := dk_42 ((dQ_L_law_100 5).trans dk_j5)
theorem dL_law_1606 : decode cL_law 1606 = .ok (.iload_n 3, 1) := dk_29 ((dQ_L_law_100 6).trans dk_j6)
theorem dL_law_1607 : decode cL_law 1607 = .ok (.iconst 1, 1) := dk_4 ((dQ_L_law_100 7).trans dk_j7)
theorem dL_law_1608 : decode cL_law 1608 = .ok (.iadd, 1) := dk_96 ((dQ_L_law_100 8).trans dk_j8)
theorem dL_law_1609 : decode cL_law 1609 = .ok (.iaload, 1) := dk_46 ((dQ_L_law_100 9).trans dk_j9)
theorem dL_law_1610 : decode cL_law 1610 = .ok (.aload_n 0, 1) := dk_42 ((dQ_L_law_100 10).trans dk_j10)
theorem dL_law_1611 : decode cL_law 1611 = .ok (.iload_n 3, 1) := dk_29 ((dQ_L_law_100 11).trans dk_j11)
theorem dL_law_1612 : decode cL_law 1612 = .ok (.iconst 2, 1) := dk_5 ((dQ_L_law_100 12).trans dk_j12)
theorem dL_law_1613 : decode cL_law 1613 = .ok (.iadd, 1) := dk_96 ((dQ_L_law_100 13).trans dk_j13)
theorem dL_law_1614 : decode cL_law 1614 = .ok (.iaload, 1) := dk_46 ((dQ_L_law_100 14).trans dk_j14)
theorem dL_law_1615 : decode cL_law 1615 = .ok (.aload_n 0, 1) := dk_42 ((dQ_L_law_100 15).trans dk_j15)
theorem dL_law_1616 : decode cL_law 1616 = .ok (.iload_n 3, 1) := dk_29 ((dQ_L_law_101 0).trans dk_j0)
theorem dL_law_1617 : decode cL_law 1617 = .ok (.iconst 3, 1) := dk_6 ((dQ_L_law_101 1).trans dk_j1)
theorem dL_law_1618 : decode cL_law 1618 = .ok (.iadd, 1) := dk_96 ((dQ_L_law_101 2).trans dk_j2)
theorem dL_law_1619 : decode cL_law 1619 = .ok (.iaload, 1) := dk_46 ((dQ_L_law_101 3).trans dk_j3)
theorem dk_vu2_0_242 : (0x00 : UInt8).toNat * 256 + (0xf2 : UInt8).toNat = (242 : Nat) := by decide +kernel
theorem dL_law_1620 : decode cL_law 1620 = .ok (.invokevirtual 242, 3) := dk_182 ((dQ_L_law_101 4).trans dk_j4) ((dQ_L_law_101 5).trans dk_j5) ((dQ_L_law_101 6).trans dk_j6) dk_vu2_0_242
theorem dL_law_1623 : decode cL_law 1623 = .ok (.pop2, 1) := dk_88 ((dQ_L_law_101 7).trans dk_j7)
theorem dL_law_1624 : decode cL_law 1624 = .ok (.aload_n 2, 1) := dk_44 ((dQ_L_law_101 8).trans dk_j8)
theorem dL_law_1625 : decode cL_law 1625 = .ok (.aload_n 0, 1) := dk_42 ((dQ_L_law_101 9).trans dk_j9)
theorem dL_law_1626 : decode cL_law 1626 = .ok (.iload_n 3, 1) := dk_29 ((dQ_L_law_101 10).trans dk_j10)
theorem dL_law_1627 : decode cL_law 1627 = .ok (.iconst 1, 1) := dk_4 ((dQ_L_law_101 11).trans dk_j11)
theorem dL_law_1628 : decode cL_law 1628 = .ok (.iadd, 1) := dk_96 ((dQ_L_law_101 12).trans dk_j12)
theorem dL_law_1629 : decode cL_law 1629 = .ok (.iaload, 1) := dk_46 ((dQ_L_law_101 13).trans dk_j13)
theorem dL_law_1630 : decode cL_law 1630 = .ok (.aload_n 0, 1) := dk_42 ((dQ_L_law_101 14).trans dk_j14)
theorem dL_law_1631 : decode cL_law 1631 = .ok (.iload_n 3, 1) := dk_29 ((dQ_L_law_101 15).trans dk_j15)
theorem dL_law_1632 : decode cL_law 1632 = .ok (.iconst 2, 1) := dk_5 ((dQ_L_law_102 0).trans dk_j0)
theorem dL_law_1633 : decode cL_law 1633 = .ok (.iadd, 1) := dk_96 ((dQ_L_law_102 1).trans dk_j1)
theorem dL_law_1634 : decode cL_law 1634 = .ok (.iaload, 1) := dk_46 ((dQ_L_law_102 2).trans dk_j2)
theorem dL_law_1635 : decode cL_law 1635 = .ok (.aload_n 0, 1) := dk_42 ((dQ_L_law_102 3).trans dk_j3)
theorem dL_law_1636 : decode cL_law 1636 = .ok (.iload_n 3, 1) := dk_29 ((dQ_L_law_102 4).trans dk_j4)
theorem dL_law_1637 : decode cL_law 1637 = .ok (.iconst 3, 1) := dk_6 ((dQ_L_law_102 5).trans dk_j5)
theorem dL_law_1638 : decode cL_law 1638 = .ok (.iadd, 1) := dk_96 ((dQ_L_law_102 6).trans dk_j6)
theorem dL_law_1639 : decode cL_law 1639 = .ok (.iaload, 1) := dk_46 ((dQ_L_law_102 7).trans dk_j7)
theorem dL_law_1640 : decode cL_law 1640 = .ok (.invokevirtual 246, 3) := dk_182 ((dQ_L_law_102 8).trans dk_j8) ((dQ_L_law_102 9).trans dk_j9) ((dQ_L_law_102 10).trans dk_j10) dk_vu2_0_246
theorem dL_law_1643 : decode cL_law 1643 = .ok (.pop2, 1) := dk_88 ((dQ_L_law_102 11).trans dk_j11)
theorem dk_vs2_2_16 : Reader.signed 16 ((0x02 : UInt8).toNat * 256 + (0x10 : UInt8).toNat) = (528 : Int) := by decide +kernel
theorem dL_law_1644 : decode cL_law 1644 = .ok (.goto 528, 3) := dk_167 ((dQ_L_law_102 12).trans dk_j12) ((dQ_L_law_102 13).trans dk_j13) ((dQ_L_law_102 14).trans dk_j14) dk_vs2_2_16
theorem dL_law_1647 : decode cL_law 1647 = .ok (.aload_n 1, 1) := dk_43 ((dQ_L_law_102 15).trans dk_j15)
theorem dL_law_1648 : decode cL_law 1648 = .ok (.aload_n 0, 1) := dk_42 ((dQ_L_law_103 0).trans dk_j0)
theorem dL_law_1649 : decode cL_law 1649 = .ok (.iload_n 3, 1) := dk_29 ((dQ_L_law_103 1).trans dk_j1)
theorem dL_law_1650 : decode cL_law 1650 = .ok (.iconst 1, 1) := dk_4 ((dQ_L_law_103 2).trans dk_j2)
theorem dL_law_1651 : decode cL_law 1651 = .ok (.iadd, 1) := dk_96 ((dQ_L_law_103 3).trans dk_j3)
theorem dL_law_1652 : decode cL_law 1652 = .ok (.iaload, 1) := dk_46 ((dQ_L_law_103 4).trans dk_j4)
theorem dL_law_1653 : decode cL_law 1653 = .ok (.aload_n 0, 1) := dk_42 ((dQ_L_law_103 5).trans dk_j5)
theorem dL_law_1654 : decode cL_law 1654 = .ok (.iload_n 3, 1) := dk_29 ((dQ_L_law_103 6).trans dk_j6)
theorem dL_law_1655 : decode cL_law 1655 = .ok (.iconst 2, 1) := dk_5 ((dQ_L_law_103 7).trans dk_j7)
theorem dL_law_1656 : decode cL_law 1656 = .ok (.iadd, 1) := dk_96 ((dQ_L_law_103 8).trans dk_j8)
theorem dL_law_1657 : decode cL_law 1657 = .ok (.iaload, 1) := dk_46 ((dQ_L_law_103 9).trans dk_j9)
theorem dL_law_1658 : decode cL_law 1658 = .ok (.aload_n 0, 1) := dk_42 ((dQ_L_law_103 10).trans dk_j10)
theorem dL_law_1659 : decode cL_law 1659 = .ok (.iload_n 3, 1) := dk_29 ((dQ_L_law_103 11).trans dk_j11)
theorem dL_law_1660 : decode cL_law 1660 = .ok (.iconst 3, 1) := dk_6 ((dQ_L_law_103 12).trans dk_j12)
theorem dL_law_1661 : decode cL_law 1661 = .ok (.iadd, 1) := dk_96 ((dQ_L_law_103 13).trans dk_j13)
theorem dL_law_1662 : decode cL_law 1662 = .ok (.iaload, 1) := dk_46 ((dQ_L_law_103 14).trans dk_j14)
theorem dL_law_1663 : decode cL_law 1663 = .ok (.invokevirtual 247, 3) := dk_182 ((dQ_L_law_103 15).trans dk_j15) ((dQ_L_law_104 0).trans dk_j0) ((dQ_L_law_104 1).trans dk_j1) dk_vu2_0_247
theorem dL_law_1666 : decode cL_law 1666 = .ok (.pop2, 1) := dk_88 ((dQ_L_law_104 2).trans dk_j2)
theorem dL_law_1667 : decode cL_law 1667 = .ok (.aload_n 2, 1) := dk_44 ((dQ_L_law_104 3).trans dk_j3)
theorem dL_law_1668 : decode cL_law 1668 = .ok (.aload_n 0, 1) := dk_42 ((dQ_L_law_104 4).trans dk_j4)
theorem dL_law_1669 : decode cL_law 1669 = .ok (.iload_n 3, 1) := dk_29 ((dQ_L_law_104 5).trans dk_j5)
theorem dL_law_1670 : decode cL_law 1670 = .ok (.iconst 1, 1) := dk_4 ((dQ_L_law_104 6).trans dk_j6)
theorem dL_law_1671 : decode cL_law 1671 = .ok (.iadd, 1) := dk_96 ((dQ_L_law_104 7).trans dk_j7)
theorem dL_law_1672 : decode cL_law 1672 = .ok (.iaload, 1) := dk_46 ((dQ_L_law_104 8).trans dk_j8)
theorem dL_law_1673 : decode cL_law 1673 = .ok (.aload_n 0, 1) := dk_42 ((dQ_L_law_104 9).trans dk_j9)
theorem dL_law_1674 : decode cL_law 1674 = .ok (.iload_n 3, 1) := dk_29 ((dQ_L_law_104 10).trans dk_j10)
theorem dL_law_1675 : decode cL_law 1675 = .ok (.iconst 2, 1) := dk_5 ((dQ_L_law_104 11).trans dk_j11)
theorem dL_law_1676 : decode cL_law 1676 = .ok (.iadd, 1) := dk_96 ((dQ_L_law_104 12).trans dk_j12)
theorem dL_law_1677 : decode cL_law 1677 = .ok (.iaload, 1) := dk_46 ((dQ_L_law_104 13).trans dk_j13)
theorem dL_law_1678 : decode cL_law 1678 = .ok (.aload_n 0, 1) := dk_42 ((dQ_L_law_104 14).trans dk_j14)
theorem dL_law_1679 : decode cL_law 1679 = .ok (.iload_n 3, 1) := dk_29 ((dQ_L_law_104 15).trans dk_j15)
theorem dL_law_1680 : decode cL_law 1680 = .ok (.iconst 3, 1) := dk_6 ((dQ_L_law_105 0).trans dk_j0)
theorem dL_law_1681 : decode cL_law 1681 = .ok (.iadd, 1) := dk_96 ((dQ_L_law_105 1).trans dk_j1)
theorem dL_law_1682 : decode cL_law 1682 = .ok (.iaload, 1) := dk_46 ((dQ_L_law_105 2).trans dk_j2)
theorem dL_law_1683 : decode cL_law 1683 = .ok (.invokevirtual 250, 3) := dk_182 ((dQ_L_law_105 3).trans dk_j3) ((dQ_L_law_105 4).trans dk_j4) ((dQ_L_law_105 5).trans dk_j5) dk_vu2_0_250
theorem dL_law_1686 : decode cL_law 1686 = .ok (.pop2, 1) := dk_88 ((dQ_L_law_105 6).trans dk_j6)
theorem dk_vs2_1_229 : Reader.signed 16 ((0x01 : UInt8).toNat * 256 + (0xe5 : UInt8).toNat) = (485 : Int) := by decide +kernel
theorem dL_law_1687 : decode cL_law 1687 = .ok (.goto 485, 3) := dk_167 ((dQ_L_law_105 7).trans dk_j7) ((dQ_L_law_105 8).trans dk_j8) ((dQ_L_law_105 9).trans dk_j9) dk_vs2_1_229
theorem dL_law_1690 : decode cL_law 1690 = .ok (.aload_n 1, 1) := dk_43 ((dQ_L_law_105 10).trans dk_j10)
theorem dL_law_1691 : decode cL_law 1691 = .ok (.aload_n 0, 1) := dk_42 ((dQ_L_law_105 11).trans dk_j11)
theorem dL_law_1692 : decode cL_law 1692 = .ok (.iload_n 3, 1) := dk_29 ((dQ_L_law_105 12).trans dk_j12)
theorem dL_law_1693 : decode cL_law 1693 = .ok (.iconst 1, 1) := dk_4 ((dQ_L_law_105 13).trans dk_j13)
theorem dL_law_1694 : decode cL_law 1694 = .ok (.iadd, 1) := dk_96 ((dQ_L_law_105 14).trans dk_j14)
theorem dL_law_1695 : decode cL_law 1695 = .ok (.iaload, 1) := dk_46 ((dQ_L_law_105 15).trans dk_j15)
theorem dL_law_1696 : decode cL_law 1696 = .ok (.aload_n 0, 1) := dk_42 ((dQ_L_law_106 0).trans dk_j0)
theorem dL_law_1697 : decode cL_law 1697 = .ok (.iload_n 3, 1) := dk_29 ((dQ_L_law_106 1).trans dk_j1)
theorem dL_law_1698 : decode cL_law 1698 = .ok (.iconst 2, 1) := dk_5 ((dQ_L_law_106 2).trans dk_j2)
theorem dL_law_1699 : decode cL_law 1699 = .ok (.iadd, 1) := dk_96 ((dQ_L_law_106 3).trans dk_j3)
theorem dL_law_1700 : decode cL_law 1700 = .ok (.iaload, 1) := dk_46 ((dQ_L_law_106 4).trans dk_j4)
theorem dL_law_1701 : decode cL_law 1701 = .ok (.invokevirtual 251, 3) := dk_182 ((dQ_L_law_106 5).trans dk_j5) ((dQ_L_law_106 6).trans dk_j6) ((dQ_L_law_106 7).trans dk_j7) dk_vu2_0_251
theorem dL_law_1704 : decode cL_law 1704 = .ok (.pop2, 1) := dk_88 ((dQ_L_law_106 8).trans dk_j8)
theorem dL_law_1705 : decode cL_law 1705 = .ok (.aload_n 2, 1) := dk_44 ((dQ_L_law_106 9).trans dk_j9)
theorem dL_law_1706 : decode cL_law 1706 = .ok (.aload_n 0, 1) := dk_42 ((dQ_L_law_106 10).trans dk_j10)
theorem dL_law_1707 : decode cL_law 1707 = .ok (.iload_n 3, 1) := dk_29 ((dQ_L_law_106 11).trans dk_j11)
theorem dL_law_1708 : decode cL_law 1708 = .ok (.iconst 1, 1) := dk_4 ((dQ_L_law_106 12).trans dk_j12)
theorem dL_law_1709 : decode cL_law 1709 = .ok (.iadd, 1) := dk_96 ((dQ_L_law_106 13).trans dk_j13)
theorem dL_law_1710 : decode cL_law 1710 = .ok (.iaload, 1) := dk_46 ((dQ_L_law_106 14).trans dk_j14)
theorem dL_law_1711 : decode cL_law 1711 = .ok (.aload_n 0, 1) := dk_42 ((dQ_L_law_106 15).trans dk_j15)
theorem dL_law_1712 : decode cL_law 1712 = .ok (.iload_n 3, 1) := dk_29 ((dQ_L_law_107 0).trans dk_j0)
theorem dL_law_1713 : decode cL_law 1713 = .ok (.iconst 2, 1) := dk_5 ((dQ_L_law_107 1).trans dk_j1)
theorem dL_law_1714 : decode cL_law 1714 = .ok (.iadd, 1) := dk_96 ((dQ_L_law_107 2).trans dk_j2)
theorem dL_law_1715 : decode cL_law 1715 = .ok (.iaload, 1) := dk_46 ((dQ_L_law_107 3).trans dk_j3)
theorem dL_law_1716 : decode cL_law 1716 = .ok (.invokevirtual 255, 3) := dk_182 ((dQ_L_law_107 4).trans dk_j4) ((dQ_L_law_107 5).trans dk_j5) ((dQ_L_law_107 6).trans dk_j6) dk_vu2_0_255
theorem dL_law_1719 : decode cL_law 1719 = .ok (.pop2, 1) := dk_88 ((dQ_L_law_107 7).trans dk_j7)
theorem dk_vs2_1_196 : Reader.signed 16 ((0x01 : UInt8).toNat * 256 + (0xc4 : UInt8).toNat) = (452 : Int) := by decide +kernel
theorem dL_law_1720 : decode cL_law 1720 = .ok (.goto 452, 3) := dk_167 ((dQ_L_law_107 8).trans dk_j8) ((dQ_L_law_107 9).trans dk_j9) ((dQ_L_law_107 10).trans dk_j10) dk_vs2_1_196
theorem dL_law_1723 : decode cL_law 1723 = .ok (.aload_n 1, 1) := dk_43 ((dQ_L_law_107 11).trans dk_j11)
theorem dL_law_1724 : decode cL_law 1724 = .ok (.aload_n 0, 1) := dk_42 ((dQ_L_law_107 12).trans dk_j12)
theorem dL_law_1725 : decode cL_law 1725 = .ok (.iload_n 3, 1) := dk_29 ((dQ_L_law_107 13).trans dk_j13)
theorem dL_law_1726 : decode cL_law 1726 = .ok (.iconst 1, 1) := dk_4 ((dQ_L_law_107 14).trans dk_j14)
theorem dL_law_1727 : decode cL_law 1727 = .ok (.iadd, 1) := dk_96 ((dQ_L_law_107 15).trans dk_j15)
theorem dL_law_1728 : decode cL_law 1728 = .ok (.iaload, 1) := dk_46 ((dQ_L_law_108 0).trans dk_j0)
theorem dL_law_1729 : decode cL_law 1729 = .ok (.aload_n 0, 1) := dk_42 ((dQ_L_law_108 1).trans dk_j1)
theorem dL_law_1730 : decode cL_law 1730 = .ok (.iload_n 3, 1) := dk_29 ((dQ_L_law_108 2).trans dk_j2)
theorem dL_law_1731 : decode cL_law 1731 = .ok (.iconst 2, 1) := dk_5 ((dQ_L_law_108 3).trans dk_j3)
theorem dL_law_1732 : decode cL_law 1732 = .ok (.iadd, 1) := dk_96 ((dQ_L_law_108 4).trans dk_j4)
theorem dL_law_1733 : decode cL_law 1733 = .ok (.iaload, 1) := dk_46 ((dQ_L_law_108 5).trans dk_j5)
theorem dk_vu2_1_0 : (0x01 : UInt8).toNat * 256 + (0x00 : UInt8).toNat = (256 : Nat) := by decide +kernel
theorem dL_law_1734 : decode cL_law 1734 = .ok (.invokevirtual 256, 3) := dk_182 ((dQ_L_law_108 6).trans dk_j6) ((dQ_L_law_108 7).trans dk_j7) ((dQ_L_law_108 8).trans dk_j8) dk_vu2_1_0
theorem dL_law_1737 : decode cL_law 1737 = .ok (.pop, 1) := dk_87 ((dQ_L_law_108 9).trans dk_j9)
theorem dL_law_1738 : decode cL_law 1738 = .ok (.aload_n 2, 1) := dk_44 ((dQ_L_law_108 10).trans dk_j10)
theorem dL_law_1739 : decode cL_law 1739 = .ok (.aload_n 0, 1) := dk_42 ((dQ_L_law_108 11).trans dk_j11)
theorem dL_law_1740 : decode cL_law 1740 = .ok (.iload_n 3, 1) := dk_29 ((dQ_L_law_108 12).trans dk_j12)
theorem dL_law_1741 : decode cL_law 1741 = .ok (.iconst 1, 1) := dk_4 ((dQ_L_law_108 13).trans dk_j13)
theorem dL_law_1742 : decode cL_law 1742 = .ok (.iadd, 1) := dk_96 ((dQ_L_law_108 14).trans dk_j14)
theorem dL_law_1743 : decode cL_law 1743 = .ok (.iaload, 1) := dk_46 ((dQ_L_law_108 15).trans dk_j15)
theorem dL_law_1744 : decode cL_law 1744 = .ok (.aload_n 0, 1) := dk_42 ((dQ_L_law_109 0).trans dk_j0)
theorem dL_law_1745 : decode cL_law 1745 = .ok (.iload_n 3, 1) := dk_29 ((dQ_L_law_109 1).trans dk_j1)
theorem dL_law_1746 : decode cL_law 1746 = .ok (.iconst 2, 1) := dk_5 ((dQ_L_law_109 2).trans dk_j2)
theorem dL_law_1747 : decode cL_law 1747 = .ok (.iadd, 1) := dk_96 ((dQ_L_law_109 3).trans dk_j3)
theorem dL_law_1748 : decode cL_law 1748 = .ok (.iaload, 1) := dk_46 ((dQ_L_law_109 4).trans dk_j4)
theorem dk_vu2_1_3 : (0x01 : UInt8).toNat * 256 + (0x03 : UInt8).toNat = (259 : Nat) := by decide +kernel
theorem dL_law_1749 : decode cL_law 1749 = .ok (.invokevirtual 259, 3) := dk_182 ((dQ_L_law_109 5).trans dk_j5) ((dQ_L_law_109 6).trans dk_j6) ((dQ_L_law_109 7).trans dk_j7) dk_vu2_1_3
theorem dL_law_1752 : decode cL_law 1752 = .ok (.pop, 1) := dk_87 ((dQ_L_law_109 8).trans dk_j8)
theorem dk_vs2_1_163 : Reader.signed 16 ((0x01 : UInt8).toNat * 256 + (0xa3 : UInt8).toNat) = (419 : Int) := by decide +kernel
theorem dL_law_1753 : decode cL_law 1753 = .ok (.goto 419, 3) := dk_167 ((dQ_L_law_109 9).trans dk_j9) ((dQ_L_law_109 10).trans dk_j10) ((dQ_L_law_109 11).trans dk_j11) dk_vs2_1_163
theorem dL_law_1756 : decode cL_law 1756 = .ok (.aload_n 1, 1) := dk_43 ((dQ_L_law_109 12).trans dk_j12)
theorem dL_law_1757 : decode cL_law 1757 = .ok (.aload_n 0, 1) := dk_42 ((dQ_L_law_109 13).trans dk_j13)
theorem dL_law_1758 : decode cL_law 1758 = .ok (.iload_n 3, 1) := dk_29 ((dQ_L_law_109 14).trans dk_j14)
theorem dL_law_1759 : decode cL_law 1759 = .ok (.iconst 1, 1) := dk_4 ((dQ_L_law_109 15).trans dk_j15)
theorem dL_law_1760 : decode cL_law 1760 = .ok (.iadd, 1) := dk_96 ((dQ_L_law_110 0).trans dk_j0)
theorem dL_law_1761 : decode cL_law 1761 = .ok (.iaload, 1) := dk_46 ((dQ_L_law_110 1).trans dk_j1)
theorem dL_law_1762 : decode cL_law 1762 = .ok (.aload_n 0, 1) := dk_42 ((dQ_L_law_110 2).trans dk_j2)
theorem dL_law_1763 : decode cL_law 1763 = .ok (.iload_n 3, 1) := dk_29 ((dQ_L_law_110 3).trans dk_j3)
theorem dL_law_1764 : decode cL_law 1764 = .ok (.iconst 2, 1) := dk_5 ((dQ_L_law_110 4).trans dk_j4)
theorem dL_law_1765 : decode cL_law 1765 = .ok (.iadd, 1) := dk_96 ((dQ_L_law_110 5).trans dk_j5)
theorem dL_law_1766 : decode cL_law 1766 = .ok (.iaload, 1) := dk_46 ((dQ_L_law_110 6).trans dk_j6)
theorem dL_law_1767 : decode cL_law 1767 = .ok (.invokevirtual 260, 3) := dk_182 ((dQ_L_law_110 7).trans dk_j7) ((dQ_L_law_110 8).trans dk_j8) ((dQ_L_law_110 9).trans dk_j9) dk_vu2_1_4
theorem dL_law_1770 : decode cL_law 1770 = .ok (.pop, 1) := dk_87 ((dQ_L_law_110 10).trans dk_j10)
theorem dL_law_1771 : decode cL_law 1771 = .ok (.aload_n 2, 1) := dk_44 ((dQ_L_law_110 11).trans dk_j11)
theorem dL_law_1772 : decode cL_law 1772 = .ok (.aload_n 0, 1) := dk_42 ((dQ_L_law_110 12).trans dk_j12)
theorem dL_law_1773 : decode cL_law 1773 = .ok (.iload_n 3, 1) := dk_29 ((dQ_L_law_110 13).trans dk_j13)
theorem dL_law_1774 : decode cL_law 1774 = .ok (.iconst 1, 1) := dk_4 ((dQ_L_law_110 14).trans dk_j14)
theorem dL_law_1775 : decode cL_law 1775 = .ok (.iadd, 1) := dk_96 ((dQ_L_law_110 15).trans dk_j15)
theorem dL_law_1776 : decode cL_law 1776 = .ok (.iaload, 1) := dk_46 ((dQ_L_law_111 0).trans dk_j0)
theorem dL_law_1777 : decode cL_law 1777 = .ok (.aload_n 0, 1) := dk_42 ((dQ_L_law_111 1).trans dk_j1)
theorem dL_law_1778 : decode cL_law 1778 = .ok (.iload_n 3, 1) := dk_29 ((dQ_L_law_111 2).trans dk_j2)
theorem dL_law_1779 : decode cL_law 1779 = .ok (.iconst 2, 1) := dk_5 ((dQ_L_law_111 3).trans dk_j3)
theorem dL_law_1780 : decode cL_law 1780 = .ok (.iadd, 1) := dk_96 ((dQ_L_law_111 4).trans dk_j4)
theorem dL_law_1781 : decode cL_law 1781 = .ok (.iaload, 1) := dk_46 ((dQ_L_law_111 5).trans dk_j5)
theorem dL_law_1782 : decode cL_law 1782 = .ok (.invokevirtual 263, 3) := dk_182 ((dQ_L_law_111 6).trans dk_j6) ((dQ_L_law_111 7).trans dk_j7) ((dQ_L_law_111 8).trans dk_j8) dk_vu2_1_7
theorem dL_law_1785 : decode cL_law 1785 = .ok (.pop, 1) := dk_87 ((dQ_L_law_111 9).trans dk_j9)
theorem dk_vs2_1_130 : Reader.signed 16 ((0x01 : UInt8).toNat * 256 + (0x82 : UInt8).toNat) = (386 : Int) := by decide +kernel
theorem dL_law_1786 : decode cL_law 1786 = .ok (.goto 386, 3) := dk_167 ((dQ_L_law_111 10).trans dk_j10) ((dQ_L_law_111 11).trans dk_j11) ((dQ_L_law_111 12).trans dk_j12) dk_vs2_1_130
theorem dL_law_1789 : decode cL_law 1789 = .ok (.aload_n 1, 1) := dk_43 ((dQ_L_law_111 13).trans dk_j13)
theorem dL_law_1790 : decode cL_law 1790 = .ok (.invokevirtual 264, 3) := dk_182 ((dQ_L_law_111 14).trans dk_j14) ((dQ_L_law_111 15).trans dk_j15) ((dQ_L_law_112 0).trans dk_j0) dk_vu2_1_8
theorem dL_law_1793 : decode cL_law 1793 = .ok (.pop, 1) := dk_87 ((dQ_L_law_112 1).trans dk_j1)
theorem dL_law_1794 : decode cL_law 1794 = .ok (.aload_n 2, 1) := dk_44 ((dQ_L_law_112 2).trans dk_j2)
theorem dL_law_1795 : decode cL_law 1795 = .ok (.invokevirtual 267, 3) := dk_182 ((dQ_L_law_112 3).trans dk_j3) ((dQ_L_law_112 4).trans dk_j4) ((dQ_L_law_112 5).trans dk_j5) dk_vu2_1_11
theorem dL_law_1798 : decode cL_law 1798 = .ok (.pop, 1) := dk_87 ((dQ_L_law_112 6).trans dk_j6)
theorem dk_vs2_1_117 : Reader.signed 16 ((0x01 : UInt8).toNat * 256 + (0x75 : UInt8).toNat) = (373 : Int) := by decide +kernel
theorem dL_law_1799 : decode cL_law 1799 = .ok (.goto 373, 3) := dk_167 ((dQ_L_law_112 7).trans dk_j7) ((dQ_L_law_112 8).trans dk_j8) ((dQ_L_law_112 9).trans dk_j9) dk_vs2_1_117
theorem dL_law_1802 : decode cL_law 1802 = .ok (.aload_n 1, 1) := dk_43 ((dQ_L_law_112 10).trans dk_j10)
theorem dk_vu2_1_12 : (0x01 : UInt8).toNat * 256 + (0x0c : UInt8).toNat = (268 : Nat) := by decide +kernel
theorem dL_law_1803 : decode cL_law 1803 = .ok (.invokevirtual 268, 3) := dk_182 ((dQ_L_law_112 11).trans dk_j11) ((dQ_L_law_112 12).trans dk_j12) ((dQ_L_law_112 13).trans dk_j13) dk_vu2_1_12
theorem dL_law_1806 : decode cL_law 1806 = .ok (.pop, 1) := dk_87 ((dQ_L_law_112 14).trans dk_j14)
theorem dL_law_1807 : decode cL_law 1807 = .ok (.aload_n 2, 1) := dk_44 ((dQ_L_law_112 15).trans dk_j15)
theorem dL_law_1808 : decode cL_law 1808 = .ok (.invokevirtual 271, 3) := dk_182 ((dQ_L_law_113 0).trans dk_j0) ((dQ_L_law_113 1).trans dk_j1) ((dQ_L_law_113 2).trans dk_j2) dk_vu2_1_15
theorem dL_law_1811 : decode cL_law 1811 = .ok (.pop, 1) := dk_87 ((dQ_L_law_113 3).trans dk_j3)
theorem dk_vs2_1_104 : Reader.signed 16 ((0x01 : UInt8).toNat * 256 + (0x68 : UInt8).toNat) = (360 : Int) := by decide +kernel
theorem dL_law_1812 : decode cL_law 1812 = .ok (.goto 360, 3) := dk_167 ((dQ_L_law_113 4).trans dk_j4) ((dQ_L_law_113 5).trans dk_j5) ((dQ_L_law_113 6).trans dk_j6) dk_vs2_1_104
theorem dL_law_1815 : decode cL_law 1815 = .ok (.aload_n 1, 1) := dk_43 ((dQ_L_law_113 7).trans dk_j7)
theorem dL_law_1816 : decode cL_law 1816 = .ok (.aload_n 0, 1) := dk_42 ((dQ_L_law_113 8).trans dk_j8)
theorem dL_law_1817 : decode cL_law 1817 = .ok (.iload_n 3, 1) := dk_29 ((dQ_L_law_113 9).trans dk_j9)
theorem dL_law_1818 : decode cL_law 1818 = .ok (.iconst 1, 1) := dk_4 ((dQ_L_law_113 10).trans dk_j10)
theorem dL_law_1819 : decode cL_law 1819 = .ok (.iadd, 1) := dk_96 ((dQ_L_law_113 11).trans dk_j11)
theorem dL_law_1820 : decode cL_law 1820 = .ok (.iaload, 1) := dk_46 ((dQ_L_law_113 12).trans dk_j12)
theorem dL_law_1821 : decode cL_law 1821 = .ok (.aload_n 0, 1) := dk_42 ((dQ_L_law_113 13).trans dk_j13)
theorem dL_law_1822 : decode cL_law 1822 = .ok (.iload_n 3, 1) := dk_29 ((dQ_L_law_113 14).trans dk_j14)
theorem dL_law_1823 : decode cL_law 1823 = .ok (.iconst 2, 1) := dk_5 ((dQ_L_law_113 15).trans dk_j15)
theorem dL_law_1824 : decode cL_law 1824 = .ok (.iadd, 1) := dk_96 ((dQ_L_law_114 0).trans dk_j0)
theorem dL_law_1825 : decode cL_law 1825 = .ok (.iaload, 1) := dk_46 ((dQ_L_law_114 1).trans dk_j1)
theorem dL_law_1826 : decode cL_law 1826 = .ok (.invokevirtual 272, 3) := dk_182 ((dQ_L_law_114 2).trans dk_j2) ((dQ_L_law_114 3).trans dk_j3) ((dQ_L_law_114 4).trans dk_j4) dk_vu2_1_16
theorem dL_law_1829 : decode cL_law 1829 = .ok (.pop, 1) := dk_87 ((dQ_L_law_114 5).trans dk_j5)
theorem dL_law_1830 : decode cL_law 1830 = .ok (.aload_n 2, 1) := dk_44 ((dQ_L_law_114 6).trans dk_j6)
theorem dL_law_1831 : decode cL_law 1831 = .ok (.aload_n 0, 1) := dk_42 ((dQ_L_law_114 7).trans dk_j7)
theorem dL_law_1832 : decode cL_law 1832 = .ok (.iload_n 3, 1) := dk_29 ((dQ_L_law_114 8).trans dk_j8)
theorem dL_law_1833 : decode cL_law 1833 = .ok (.iconst 1, 1) := dk_4 ((dQ_L_law_114 9).trans dk_j9)
theorem dL_law_1834 : decode cL_law 1834 = .ok (.iadd, 1) := dk_96 ((dQ_L_law_114 10).trans dk_j10)
theorem dL_law_1835 : decode cL_law 1835 = .ok (.iaload, 1) := dk_46 ((dQ_L_law_114 11).trans dk_j11)
theorem dL_law_1836 : decode cL_law 1836 = .ok (.aload_n 0, 1) := dk_42 ((dQ_L_law_114 12).trans dk_j12)
theorem dL_law_1837 : decode cL_law 1837 = .ok (.iload_n 3, 1) := dk_29 ((dQ_L_law_114 13).trans dk_j13)
theorem dL_law_1838 : decode cL_law 1838 = .ok (.iconst 2, 1) := dk_5 ((dQ_L_law_114 14).trans dk_j14)
theorem dL_law_1839 : decode cL_law 1839 = .ok (.iadd, 1) := dk_96 ((dQ_L_law_114 15).trans dk_j15)
theorem dL_law_1840 : decode cL_law 1840 = .ok (.iaload, 1) := dk_46 ((dQ_L_law_115 0).trans dk_j0)
theorem dL_law_1841 : decode cL_law 1841 = .ok (.invokevirtual 275, 3) := dk_182 ((dQ_L_law_115 1).trans dk_j1) ((dQ_L_law_115 2).trans dk_j2) ((dQ_L_law_115 3).trans dk_j3) dk_vu2_1_19
theorem dL_law_1844 : decode cL_law 1844 = .ok (.pop, 1) := dk_87 ((dQ_L_law_115 4).trans dk_j4)
theorem dk_vs2_1_71 : Reader.signed 16 ((0x01 : UInt8).toNat * 256 + (0x47 : UInt8).toNat) = (327 : Int) := by decide +kernel
theorem dL_law_1845 : decode cL_law 1845 = .ok (.goto 327, 3) := dk_167 ((dQ_L_law_115 5).trans dk_j5) ((dQ_L_law_115 6).trans dk_j6) ((dQ_L_law_115 7).trans dk_j7) dk_vs2_1_71
theorem dL_law_1848 : decode cL_law 1848 = .ok (.aload_n 1, 1) := dk_43 ((dQ_L_law_115 8).trans dk_j8)
theorem dL_law_1849 : decode cL_law 1849 = .ok (.aload_n 0, 1) := dk_42 ((dQ_L_law_115 9).trans dk_j9)
theorem dL_law_1850 : decode cL_law 1850 = .ok (.iload_n 3, 1) := dk_29 ((dQ_L_law_115 10).trans dk_j10)
theorem dL_law_1851 : decode cL_law 1851 = .ok (.iconst 1, 1) := dk_4 ((dQ_L_law_115 11).trans dk_j11)
theorem dL_law_1852 : decode cL_law 1852 = .ok (.iadd, 1) := dk_96 ((dQ_L_law_115 12).trans dk_j12)
theorem dL_law_1853 : decode cL_law 1853 = .ok (.iaload, 1) := dk_46 ((dQ_L_law_115 13).trans dk_j13)
theorem dL_law_1854 : decode cL_law 1854 = .ok (.aload_n 0, 1) := dk_42 ((dQ_L_law_115 14).trans dk_j14)
theorem dL_law_1855 : decode cL_law 1855 = .ok (.iload_n 3, 1) := dk_29 ((dQ_L_law_115 15).trans dk_j15)
theorem dL_law_1856 : decode cL_law 1856 = .ok (.iconst 2, 1) := dk_5 ((dQ_L_law_116 0).trans dk_j0)
theorem dL_law_1857 : decode cL_law 1857 = .ok (.iadd, 1) := dk_96 ((dQ_L_law_116 1).trans dk_j1)
theorem dL_law_1858 : decode cL_law 1858 = .ok (.iaload, 1) := dk_46 ((dQ_L_law_116 2).trans dk_j2)
theorem dL_law_1859 : decode cL_law 1859 = .ok (.aload_n 0, 1) := dk_42 ((dQ_L_law_116 3).trans dk_j3)
theorem dL_law_1860 : decode cL_law 1860 = .ok (.iload_n 3, 1) := dk_29 ((dQ_L_law_116 4).trans dk_j4)
theorem dL_law_1861 : decode cL_law 1861 = .ok (.iconst 3, 1) := dk_6 ((dQ_L_law_116 5).trans dk_j5)
theorem dL_law_1862 : decode cL_law 1862 = .ok (.iadd, 1) := dk_96 ((dQ_L_law_116 6).trans dk_j6)
theorem dL_law_1863 : decode cL_law 1863 = .ok (.iaload, 1) := dk_46 ((dQ_L_law_116 7).trans dk_j7)
theorem dk_vu2_1_20 : (0x01 : UInt8).toNat * 256 + (0x14 : UInt8).toNat = (276 : Nat) := by decide +kernel
theorem dL_law_1864 : decode cL_law 1864 = .ok (.invokevirtual 276, 3) := dk_182 ((dQ_L_law_116 8).trans dk_j8) ((dQ_L_law_116 9).trans dk_j9) ((dQ_L_law_116 10).trans dk_j10) dk_vu2_1_20
theorem dL_law_1867 : decode cL_law 1867 = .ok (.pop, 1) := dk_87 ((dQ_L_law_116 11).trans dk_j11)
theorem dL_law_1868 : decode cL_law 1868 = .ok (.aload_n 2, 1) := dk_44 ((dQ_L_law_116 12).trans dk_j12)
theorem dL_law_1869 : decode cL_law 1869 = .ok (.aload_n 0, 1) := dk_42 ((dQ_L_law_116 13).trans dk_j13)
theorem dL_law_1870 : decode cL_law 1870 = .ok (.iload_n 3, 1) := dk_29 ((dQ_L_law_116 14).trans dk_j14)
theorem dL_law_1871 : decode cL_law 1871 = .ok (.iconst 1, 1) := dk_4 ((dQ_L_law_116 15).trans dk_j15)
theorem dL_law_1872 : decode cL_law 1872 = .ok (.iadd, 1) := dk_96 ((dQ_L_law_117 0).trans dk_j0)
theorem dL_law_1873 : decode cL_law 1873 = .ok (.iaload, 1) := dk_46 ((dQ_L_law_117 1).trans dk_j1)
theorem dL_law_1874 : decode cL_law 1874 = .ok (.aload_n 0, 1) := dk_42 ((dQ_L_law_117 2).trans dk_j2)
theorem dL_law_1875 : decode cL_law 1875 = .ok (.iload_n 3, 1) := dk_29 ((dQ_L_law_117 3).trans dk_j3)
theorem dL_law_1876 : decode cL_law 1876 = .ok (.iconst 2, 1) := dk_5 ((dQ_L_law_117 4).trans dk_j4)
theorem dL_law_1877 : decode cL_law 1877 = .ok (.iadd, 1) := dk_96 ((dQ_L_law_117 5).trans dk_j5)
theorem dL_law_1878 : decode cL_law 1878 = .ok (.iaload, 1) := dk_46 ((dQ_L_law_117 6).trans dk_j6)
theorem dL_law_1879 : decode cL_law 1879 = .ok (.aload_n 0, 1) := dk_42 ((dQ_L_law_117 7).trans dk_j7)
theorem dL_law_1880 : decode cL_law 1880 = .ok (.iload_n 3, 1) := dk_29 ((dQ_L_law_117 8).trans dk_j8)
theorem dL_law_1881 : decode cL_law 1881 = .ok (.iconst 3, 1) := dk_6 ((dQ_L_law_117 9).trans dk_j9)
theorem dL_law_1882 : decode cL_law 1882 = .ok (.iadd, 1) := dk_96 ((dQ_L_law_117 10).trans dk_j10)
theorem dL_law_1883 : decode cL_law 1883 = .ok (.iaload, 1) := dk_46 ((dQ_L_law_117 11).trans dk_j11)
theorem dk_vu2_1_24 : (0x01 : UInt8).toNat * 256 + (0x18 : UInt8).toNat = (280 : Nat) := by decide +kernel
theorem dL_law_1884 : decode cL_law 1884 = .ok (.invokevirtual 280, 3) := dk_182 ((dQ_L_law_117 12).trans dk_j12) ((dQ_L_law_117 13).trans dk_j13) ((dQ_L_law_117 14).trans dk_j14) dk_vu2_1_24
theorem dL_law_1887 : decode cL_law 1887 = .ok (.pop, 1) := dk_87 ((dQ_L_law_117 15).trans dk_j15)
theorem dk_vs2_1_28 : Reader.signed 16 ((0x01 : UInt8).toNat * 256 + (0x1c : UInt8).toNat) = (284 : Int) := by decide +kernel
theorem dL_law_1888 : decode cL_law 1888 = .ok (.goto 284, 3) := dk_167 ((dQ_L_law_118 0).trans dk_j0) ((dQ_L_law_118 1).trans dk_j1) ((dQ_L_law_118 2).trans dk_j2) dk_vs2_1_28
theorem dL_law_1891 : decode cL_law 1891 = .ok (.aload_n 1, 1) := dk_43 ((dQ_L_law_118 3).trans dk_j3)
theorem dL_law_1892 : decode cL_law 1892 = .ok (.aload_n 0, 1) := dk_42 ((dQ_L_law_118 4).trans dk_j4)
theorem dL_law_1893 : decode cL_law 1893 = .ok (.iload_n 3, 1) := dk_29 ((dQ_L_law_118 5).trans dk_j5)
theorem dL_law_1894 : decode cL_law 1894 = .ok (.iconst 1, 1) := dk_4 ((dQ_L_law_118 6).trans dk_j6)
theorem dL_law_1895 : decode cL_law 1895 = .ok (.iadd, 1) := dk_96 ((dQ_L_law_118 7).trans dk_j7)
theorem dL_law_1896 : decode cL_law 1896 = .ok (.iaload, 1) := dk_46 ((dQ_L_law_118 8).trans dk_j8)
theorem dL_law_1897 : decode cL_law 1897 = .ok (.aload_n 0, 1) := dk_42 ((dQ_L_law_118 9).trans dk_j9)
theorem dL_law_1898 : decode cL_law 1898 = .ok (.iload_n 3, 1) := dk_29 ((dQ_L_law_118 10).trans dk_j10)
theorem dL_law_1899 : decode cL_law 1899 = .ok (.iconst 2, 1) := dk_5 ((dQ_L_law_118 11).trans dk_j11)
theorem dL_law_1900 : decode cL_law 1900 = .ok (.iadd, 1) := dk_96 ((dQ_L_law_118 12).trans dk_j12)
theorem dL_law_1901 : decode cL_law 1901 = .ok (.iaload, 1) := dk_46 ((dQ_L_law_118 13).trans dk_j13)
theorem dL_law_1902 : decode cL_law 1902 = .ok (.invokevirtual 281, 3) := dk_182 ((dQ_L_law_118 14).trans dk_j14) ((dQ_L_law_118 15).trans dk_j15) ((dQ_L_law_119 0).trans dk_j0) dk_vu2_1_25
theorem dL_law_1905 : decode cL_law 1905 = .ok (.pop, 1) := dk_87 ((dQ_L_law_119 1).trans dk_j1)
theorem dL_law_1906 : decode cL_law 1906 = .ok (.aload_n 2, 1) := dk_44 ((dQ_L_law_119 2).trans dk_j2)
theorem dL_law_1907 : decode cL_law 1907 = .ok (.aload_n 0, 1) := dk_42 ((dQ_L_law_119 3).trans dk_j3)
theorem dL_law_1908 : decode cL_law 1908 = .ok (.iload_n 3, 1) := dk_29 ((dQ_L_law_119 4).trans dk_j4)
theorem dL_law_1909 : decode cL_law 1909 = .ok (.iconst 1, 1) := dk_4 ((dQ_L_law_119 5).trans dk_j5)
theorem dL_law_1910 : decode cL_law 1910 = .ok (.iadd, 1) := dk_96 ((dQ_L_law_119 6).trans dk_j6)
theorem dL_law_1911 : decode cL_law 1911 = .ok (.iaload, 1) := dk_46 ((dQ_L_law_119 7).trans dk_j7)
theorem dL_law_1912 : decode cL_law 1912 = .ok (.aload_n 0, 1) := dk_42 ((dQ_L_law_119 8).trans dk_j8)
theorem dL_law_1913 : decode cL_law 1913 = .ok (.iload_n 3, 1) := dk_29 ((dQ_L_law_119 9).trans dk_j9)
theorem dL_law_1914 : decode cL_law 1914 = .ok (.iconst 2, 1) := dk_5 ((dQ_L_law_119 10).trans dk_j10)
theorem dL_law_1915 : decode cL_law 1915 = .ok (.iadd, 1) := dk_96 ((dQ_L_law_119 11).trans dk_j11)
theorem dL_law_1916 : decode cL_law 1916 = .ok (.iaload, 1) := dk_46 ((dQ_L_law_119 12).trans dk_j12)
theorem dL_law_1917 : decode cL_law 1917 = .ok (.invokevirtual 284, 3) := dk_182 ((dQ_L_law_119 13).trans dk_j13) ((dQ_L_law_119 14).trans dk_j14) ((dQ_L_law_119 15).trans dk_j15) dk_vu2_1_28
theorem dL_law_1920 : decode cL_law 1920 = .ok (.pop, 1) := dk_87 ((dQ_L_law_120 0).trans dk_j0)
theorem dk_vs2_0_251 : Reader.signed 16 ((0x00 : UInt8).toNat * 256 + (0xfb : UInt8).toNat) = (251 : Int) := by decide +kernel
theorem dL_law_1921 : decode cL_law 1921 = .ok (.goto 251, 3) := dk_167 ((dQ_L_law_120 1).trans dk_j1) ((dQ_L_law_120 2).trans dk_j2) ((dQ_L_law_120 3).trans dk_j3) dk_vs2_0_251
theorem dL_law_1924 : decode cL_law 1924 = .ok (.aload_n 1, 1) := dk_43 ((dQ_L_law_120 4).trans dk_j4)
theorem dL_law_1925 : decode cL_law 1925 = .ok (.aload_n 0, 1) := dk_42 ((dQ_L_law_120 5).trans dk_j5)
theorem dL_law_1926 : decode cL_law 1926 = .ok (.iload_n 3, 1) := dk_29 ((dQ_L_law_120 6).trans dk_j6)
theorem dL_law_1927 : decode cL_law 1927 = .ok (.iconst 1, 1) := dk_4 ((dQ_L_law_120 7).trans dk_j7)
theorem dL_law_1928 : decode cL_law 1928 = .ok (.iadd, 1) := dk_96 ((dQ_L_law_120 8).trans dk_j8)
theorem dL_law_1929 : decode cL_law 1929 = .ok (.iaload, 1) := dk_46 ((dQ_L_law_120 9).trans dk_j9)
theorem dk_vu2_1_29 : (0x01 : UInt8).toNat * 256 + (0x1d : UInt8).toNat = (285 : Nat) := by decide +kernel
theorem dL_law_1930 : decode cL_law 1930 = .ok (.invokevirtual 285, 3) := dk_182 ((dQ_L_law_120 10).trans dk_j10) ((dQ_L_law_120 11).trans dk_j11) ((dQ_L_law_120 12).trans dk_j12) dk_vu2_1_29
theorem dL_law_1933 : decode cL_law 1933 = .ok (.pop, 1) := dk_87 ((dQ_L_law_120 13).trans dk_j13)
theorem dL_law_1934 : decode cL_law 1934 = .ok (.aload_n 2, 1) := dk_44 ((dQ_L_law_120 14).trans dk_j14)
theorem dL_law_1935 : decode cL_law 1935 = .ok (.aload_n 0, 1) := dk_42 ((dQ_L_law_120 15).trans dk_j15)
theorem dL_law_1936 : decode cL_law 1936 = .ok (.iload_n 3, 1) := dk_29 ((dQ_L_law_121 0).trans dk_j0)
theorem dL_law_1937 : decode cL_law 1937 = .ok (.iconst 1, 1) := dk_4 ((dQ_L_law_121 1).trans dk_j1)
theorem dL_law_1938 : decode cL_law 1938 = .ok (.iadd, 1) := dk_96 ((dQ_L_law_121 2).trans dk_j2)
theorem dL_law_1939 : decode cL_law 1939 = .ok (.iaload, 1) := dk_46 ((dQ_L_law_121 3).trans dk_j3)
theorem dk_vu2_1_32 : (0x01 : UInt8).toNat * 256 + (0x20 : UInt8).toNat = (288 : Nat) := by decide +kernel
theorem dL_law_1940 : decode cL_law 1940 = .ok (.invokevirtual 288, 3) := dk_182 ((dQ_L_law_121 4).trans dk_j4) ((dQ_L_law_121 5).trans dk_j5) ((dQ_L_law_121 6).trans dk_j6) dk_vu2_1_32
theorem dL_law_1943 : decode cL_law 1943 = .ok (.pop, 1) := dk_87 ((dQ_L_law_121 7).trans dk_j7)
theorem dk_vs2_0_228 : Reader.signed 16 ((0x00 : UInt8).toNat * 256 + (0xe4 : UInt8).toNat) = (228 : Int) := by decide +kernel
theorem dL_law_1944 : decode cL_law 1944 = .ok (.goto 228, 3) := dk_167 ((dQ_L_law_121 8).trans dk_j8) ((dQ_L_law_121 9).trans dk_j9) ((dQ_L_law_121 10).trans dk_j10) dk_vs2_0_228
theorem dL_law_1947 : decode cL_law 1947 = .ok (.aload_n 1, 1) := dk_43 ((dQ_L_law_121 11).trans dk_j11)
theorem dL_law_1948 : decode cL_law 1948 = .ok (.aload_n 0, 1) := dk_42 ((dQ_L_law_121 12).trans dk_j12)
theorem dL_law_1949 : decode cL_law 1949 = .ok (.iload_n 3, 1) := dk_29 ((dQ_L_law_121 13).trans dk_j13)
theorem dL_law_1950 : decode cL_law 1950 = .ok (.iconst 1, 1) := dk_4 ((dQ_L_law_121 14).trans dk_j14)
theorem dL_law_1951 : decode cL_law 1951 = .ok (.iadd, 1) := dk_96 ((dQ_L_law_121 15).trans dk_j15)
theorem dL_law_1952 : decode cL_law 1952 = .ok (.iaload, 1) := dk_46 ((dQ_L_law_122 0).trans dk_j0)
theorem dk_vu2_1_33 : (0x01 : UInt8).toNat * 256 + (0x21 : UInt8).toNat = (289 : Nat) := by decide +kernel
theorem dL_law_1953 : decode cL_law 1953 = .ok (.invokevirtual 289, 3) := dk_182 ((dQ_L_law_122 1).trans dk_j1) ((dQ_L_law_122 2).trans dk_j2) ((dQ_L_law_122 3).trans dk_j3) dk_vu2_1_33
theorem dL_law_1956 : decode cL_law 1956 = .ok (.pop, 1) := dk_87 ((dQ_L_law_122 4).trans dk_j4)
theorem dL_law_1957 : decode cL_law 1957 = .ok (.aload_n 2, 1) := dk_44 ((dQ_L_law_122 5).trans dk_j5)
theorem dL_law_1958 : decode cL_law 1958 = .ok (.aload_n 0, 1) := dk_42 ((dQ_L_law_122 6).trans dk_j6)
theorem dL_law_1959 : decode cL_law 1959 = .ok (.iload_n 3, 1) := dk_29 ((dQ_L_law_122 7).trans dk_j7)
theorem dL_law_1960 : decode cL_law 1960 = .ok (.iconst 1, 1) := dk_4 ((dQ_L_law_122 8).trans dk_j8)
theorem dL_law_1961 : decode cL_law 1961 = .ok (.iadd, 1) := dk_96 ((dQ_L_law_122 9).trans dk_j9)
theorem dL_law_1962 : decode cL_law 1962 = .ok (.iaload, 1) := dk_46 ((dQ_L_law_122 10).trans dk_j10)
theorem dk_vu2_1_36 : (0x01 : UInt8).toNat * 256 + (0x24 : UInt8).toNat = (292 : Nat) := by decide +kernel
theorem dL_law_1963 : decode cL_law 1963 = .ok (.invokevirtual 292, 3) := dk_182 ((dQ_L_law_122 11).trans dk_j11) ((dQ_L_law_122 12).trans dk_j12) ((dQ_L_law_122 13).trans dk_j13) dk_vu2_1_36
theorem dL_law_1966 : decode cL_law 1966 = .ok (.pop, 1) := dk_87 ((dQ_L_law_122 14).trans dk_j14)
theorem dk_vs2_0_205 : Reader.signed 16 ((0x00 : UInt8).toNat * 256 + (0xcd : UInt8).toNat) = (205 : Int) := by decide +kernel
theorem dL_law_1967 : decode cL_law 1967 = .ok (.goto 205, 3) := dk_167 ((dQ_L_law_122 15).trans dk_j15) ((dQ_L_law_123 0).trans dk_j0) ((dQ_L_law_123 1).trans dk_j1) dk_vs2_0_205
theorem dL_law_1970 : decode cL_law 1970 = .ok (.aload_n 1, 1) := dk_43 ((dQ_L_law_123 2).trans dk_j2)
theorem dL_law_1971 : decode cL_law 1971 = .ok (.aload_n 0, 1) := dk_42 ((dQ_L_law_123 3).trans dk_j3)
theorem dL_law_1972 : decode cL_law 1972 = .ok (.iload_n 3, 1) := dk_29 ((dQ_L_law_123 4).trans dk_j4)
theorem dL_law_1973 : decode cL_law 1973 = .ok (.iconst 1, 1) := dk_4 ((dQ_L_law_123 5).trans dk_j5)
theorem dL_law_1974 : decode cL_law 1974 = .ok (.iadd, 1) := dk_96 ((dQ_L_law_123 6).trans dk_j6)
theorem dL_law_1975 : decode cL_law 1975 = .ok (.iaload, 1) := dk_46 ((dQ_L_law_123 7).trans dk_j7)
theorem dL_law_1976 : decode cL_law 1976 = .ok (.invokevirtual 293, 3) := dk_182 ((dQ_L_law_123 8).trans dk_j8) ((dQ_L_law_123 9).trans dk_j9) ((dQ_L_law_123 10).trans dk_j10) dk_vu2_1_37
theorem dL_law_1979 : decode cL_law 1979 = .ok (.pop, 1) := dk_87 ((dQ_L_law_123 11).trans dk_j11)
theorem dL_law_1980 : decode cL_law 1980 = .ok (.aload_n 2, 1) := dk_44 ((dQ_L_law_123 12).trans dk_j12)
theorem dL_law_1981 : decode cL_law 1981 = .ok (.aload_n 0, 1) := dk_42 ((dQ_L_law_123 13).trans dk_j13)
theorem dL_law_1982 : decode cL_law 1982 = .ok (.iload_n 3, 1) := dk_29 ((dQ_L_law_123 14).trans dk_j14)
theorem dL_law_1983 : decode cL_law 1983 = .ok (.iconst 1, 1) := dk_4 ((dQ_L_law_123 15).trans dk_j15)
theorem dL_law_1984 : decode cL_law 1984 = .ok (.iadd, 1) := dk_96 ((dQ_L_law_124 0).trans dk_j0)
theorem dL_law_1985 : decode cL_law 1985 = .ok (.iaload, 1) := dk_46 ((dQ_L_law_124 1).trans dk_j1)
theorem dL_law_1986 : decode cL_law 1986 = .ok (.invokevirtual 296, 3) := dk_182 ((dQ_L_law_124 2).trans dk_j2) ((dQ_L_law_124 3).trans dk_j3) ((dQ_L_law_124 4).trans dk_j4) dk_vu2_1_40
theorem dL_law_1989 : decode cL_law 1989 = .ok (.pop, 1) := dk_87 ((dQ_L_law_124 5).trans dk_j5)
theorem dk_vs2_0_182 : Reader.signed 16 ((0x00 : UInt8).toNat * 256 + (0xb6 : UInt8).toNat) = (182 : Int) := by decide +kernel
theorem dL_law_1990 : decode cL_law 1990 = .ok (.goto 182, 3) := dk_167 ((dQ_L_law_124 6).trans dk_j6) ((dQ_L_law_124 7).trans dk_j7) ((dQ_L_law_124 8).trans dk_j8) dk_vs2_0_182
theorem dL_law_1993 : decode cL_law 1993 = .ok (.aload_n 1, 1) := dk_43 ((dQ_L_law_124 9).trans dk_j9)
theorem dL_law_1994 : decode cL_law 1994 = .ok (.aload_n 0, 1) := dk_42 ((dQ_L_law_124 10).trans dk_j10)
theorem dL_law_1995 : decode cL_law 1995 = .ok (.iload_n 3, 1) := dk_29 ((dQ_L_law_124 11).trans dk_j11)
theorem dL_law_1996 : decode cL_law 1996 = .ok (.iconst 1, 1) := dk_4 ((dQ_L_law_124 12).trans dk_j12)
theorem dL_law_1997 : decode cL_law 1997 = .ok (.iadd, 1) := dk_96 ((dQ_L_law_124 13).trans dk_j13)
theorem dL_law_1998 : decode cL_law 1998 = .ok (.iaload, 1) := dk_46 ((dQ_L_law_124 14).trans dk_j14)
theorem dL_law_1999 : decode cL_law 1999 = .ok (.aload_n 0, 1) := dk_42 ((dQ_L_law_124 15).trans dk_j15)
theorem dL_law_2000 : decode cL_law 2000 = .ok (.iload_n 3, 1) := dk_29 ((dQ_L_law_125 0).trans dk_j0)
theorem dL_law_2001 : decode cL_law 2001 = .ok (.iconst 2, 1) := dk_5 ((dQ_L_law_125 1).trans dk_j1)
theorem dL_law_2002 : decode cL_law 2002 = .ok (.iadd, 1) := dk_96 ((dQ_L_law_125 2).trans dk_j2)
theorem dL_law_2003 : decode cL_law 2003 = .ok (.iaload, 1) := dk_46 ((dQ_L_law_125 3).trans dk_j3)
theorem dL_law_2004 : decode cL_law 2004 = .ok (.aload_n 0, 1) := dk_42 ((dQ_L_law_125 4).trans dk_j4)
theorem dL_law_2005 : decode cL_law 2005 = .ok (.iload_n 3, 1) := dk_29 ((dQ_L_law_125 5).trans dk_j5)
theorem dL_law_2006 : decode cL_law 2006 = .ok (.iconst 3, 1) := dk_6 ((dQ_L_law_125 6).trans dk_j6)
theorem dL_law_2007 : decode cL_law 2007 = .ok (.iadd, 1) := dk_96 ((dQ_L_law_125 7).trans dk_j7)
theorem dL_law_2008 : decode cL_law 2008 = .ok (.iaload, 1) := dk_46 ((dQ_L_law_125 8).trans dk_j8)
theorem dL_law_2009 : decode cL_law 2009 = .ok (.invokevirtual 297, 3) := dk_182 ((dQ_L_law_125 9).trans dk_j9) ((dQ_L_law_125 10).trans dk_j10) ((dQ_L_law_125 11).trans dk_j11) dk_vu2_1_41
theorem dL_law_2012 : decode cL_law 2012 = .ok (.pop, 1) := dk_87 ((dQ_L_law_125 12).trans dk_j12)
theorem dL_law_2013 : decode cL_law 2013 = .ok (.aload_n 2, 1) := dk_44 ((dQ_L_law_125 13).trans dk_j13)
theorem dL_law_2014 : decode cL_law 2014 = .ok (.aload_n 0, 1) := dk_42 ((dQ_L_law_125 14).trans dk_j14)
theorem dL_law_2015 : decode cL_law 2015 = .ok (.iload_n 3, 1) := dk_29 ((dQ_L_law_125 15).trans dk_j15)
theorem dL_law_2016 : decode cL_law 2016 = .ok (.iconst 1, 1) := dk_4 ((dQ_L_law_126 0).trans dk_j0)
theorem dL_law_2017 : decode cL_law 2017 = .ok (.iadd, 1) := dk_96 ((dQ_L_law_126 1).trans dk_j1)
theorem dL_law_2018 : decode cL_law 2018 = .ok (.iaload, 1) := dk_46 ((dQ_L_law_126 2).trans dk_j2)
theorem dL_law_2019 : decode cL_law 2019 = .ok (.aload_n 0, 1) := dk_42 ((dQ_L_law_126 3).trans dk_j3)
theorem dL_law_2020 : decode cL_law 2020 = .ok (.iload_n 3, 1) := dk_29 ((dQ_L_law_126 4).trans dk_j4)
theorem dL_law_2021 : decode cL_law 2021 = .ok (.iconst 2, 1) := dk_5 ((dQ_L_law_126 5).trans dk_j5)
theorem dL_law_2022 : decode cL_law 2022 = .ok (.iadd, 1) := dk_96 ((dQ_L_law_126 6).trans dk_j6)
theorem dL_law_2023 : decode cL_law 2023 = .ok (.iaload, 1) := dk_46 ((dQ_L_law_126 7).trans dk_j7)
theorem dL_law_2024 : decode cL_law 2024 = .ok (.aload_n 0, 1) := dk_42 ((dQ_L_law_126 8).trans dk_j8)
theorem dL_law_2025 : decode cL_law 2025 = .ok (.iload_n 3, 1) := dk_29 ((dQ_L_law_126 9).trans dk_j9)
theorem dL_law_2026 : decode cL_law 2026 = .ok (.iconst 3, 1) := dk_6 ((dQ_L_law_126 10).trans dk_j10)
theorem dL_law_2027 : decode cL_law 2027 = .ok (.iadd, 1) := dk_96 ((dQ_L_law_126 11).trans dk_j11)
theorem dL_law_2028 : decode cL_law 2028 = .ok (.iaload, 1) := dk_46 ((dQ_L_law_126 12).trans dk_j12)
theorem dL_law_2029 : decode cL_law 2029 = .ok (.invokevirtual 300, 3) := dk_182 ((dQ_L_law_126 13).trans dk_j13) ((dQ_L_law_126 14).trans dk_j14) ((dQ_L_law_126 15).trans dk_j15) dk_vu2_1_44
theorem dL_law_2032 : decode cL_law 2032 = .ok (.pop, 1) := dk_87 ((dQ_L_law_127 0).trans dk_j0)
theorem dk_vs2_0_139 : Reader.signed 16 ((0x00 : UInt8).toNat * 256 + (0x8b : UInt8).toNat) = (139 : Int) := by decide +kernel
theorem dL_law_2033 : decode cL_law 2033 = .ok (.goto 139, 3) := dk_167 ((dQ_L_law_127 1).trans dk_j1) ((dQ_L_law_127 2).trans dk_j2) ((dQ_L_law_127 3).trans dk_j3) dk_vs2_0_139
theorem dL_law_2036 : decode cL_law 2036 = .ok (.aload_n 1, 1) := dk_43 ((dQ_L_law_127 4).trans dk_j4)
theorem dL_law_2037 : decode cL_law 2037 = .ok (.aload_n 0, 1) := dk_42 ((dQ_L_law_127 5).trans dk_j5)
theorem dL_law_2038 : decode cL_law 2038 = .ok (.iload_n 3, 1) := dk_29 ((dQ_L_law_127 6).trans dk_j6)
theorem dL_law_2039 : decode cL_law 2039 = .ok (.iconst 1, 1) := dk_4 ((dQ_L_law_127 7).trans dk_j7)
theorem dL_law_2040 : decode cL_law 2040 = .ok (.iadd, 1) := dk_96 ((dQ_L_law_127 8).trans dk_j8)
theorem dL_law_2041 : decode cL_law 2041 = .ok (.iaload, 1) := dk_46 ((dQ_L_law_127 9).trans dk_j9)
theorem dL_law_2042 : decode cL_law 2042 = .ok (.aload_n 0, 1) := dk_42 ((dQ_L_law_127 10).trans dk_j10)
theorem dL_law_2043 : decode cL_law 2043 = .ok (.iload_n 3, 1) := dk_29 ((dQ_L_law_127 11).trans dk_j11)
theorem dL_law_2044 : decode cL_law 2044 = .ok (.iconst 2, 1) := dk_5 ((dQ_L_law_127 12).trans dk_j12)
theorem dL_law_2045 : decode cL_law 2045 = .ok (.iadd, 1) := dk_96 ((dQ_L_law_127 13).trans dk_j13)
theorem dL_law_2046 : decode cL_law 2046 = .ok (.iaload, 1) := dk_46 ((dQ_L_law_127 14).trans dk_j14)
theorem dL_law_2047 : decode cL_law 2047 = .ok (.aload_n 0, 1) := dk_42 ((dQ_L_law_127 15).trans dk_j15)
theorem dL_law_2048 : decode cL_law 2048 = .ok (.iload_n 3, 1) := dk_29 ((dQ_L_law_128 0).trans dk_j0)
theorem dL_law_2049 : decode cL_law 2049 = .ok (.iconst 3, 1) := dk_6 ((dQ_L_law_128 1).trans dk_j1)
theorem dL_law_2050 : decode cL_law 2050 = .ok (.iadd, 1) := dk_96 ((dQ_L_law_128 2).trans dk_j2)
theorem dL_law_2051 : decode cL_law 2051 = .ok (.iaload, 1) := dk_46 ((dQ_L_law_128 3).trans dk_j3)
theorem dL_law_2052 : decode cL_law 2052 = .ok (.i2l, 1) := dk_133 ((dQ_L_law_128 4).trans dk_j4)
theorem dL_law_2053 : decode cL_law 2053 = .ok (.bipush 32, 2) := dk_16 ((dQ_L_law_128 5).trans dk_j5) ((dQ_L_law_128 6).trans dk_j6) dk_vs1_32
theorem dL_law_2055 : decode cL_law 2055 = .ok (.lshl, 1) := dk_121 ((dQ_L_law_128 7).trans dk_j7)
theorem dL_law_2056 : decode cL_law 2056 = .ok (.aload_n 0, 1) := dk_42 ((dQ_L_law_128 8).trans dk_j8)
theorem dL_law_2057 : decode cL_law 2057 = .ok (.iload_n 3, 1) := dk_29 ((dQ_L_law_128 9).trans dk_j9)
theorem dL_law_2058 : decode cL_law 2058 = .ok (.iconst 4, 1) := dk_7 ((dQ_L_law_128 10).trans dk_j10)
theorem dL_law_2059 : decode cL_law 2059 = .ok (.iadd, 1) := dk_96 ((dQ_L_law_128 11).trans dk_j11)
theorem dL_law_2060 : decode cL_law 2060 = .ok (.iaload, 1) := dk_46 ((dQ_L_law_128 12).trans dk_j12)
theorem dL_law_2061 : decode cL_law 2061 = .ok (.i2l, 1) := dk_133 ((dQ_L_law_128 13).trans dk_j13)
theorem dk_vu2_1_45 : (0x01 : UInt8).toNat * 256 + (0x2d : UInt8).toNat = (301 : Nat) := by decide +kernel
theorem dL_law_2062 : decode cL_law 2062 = .ok (.ldc2_w 301, 3) := dk_20 ((dQ_L_law_128 14).trans dk_j14) ((dQ_L_law_128 15).trans dk_j15) ((dQ_L_law_129 0).trans dk_j0) dk_vu2_1_45
theorem dL_law_2065 : decode cL_law 2065 = .ok (.land, 1) := dk_127 ((dQ_L_law_129 1).trans dk_j1)
theorem dL_law_2066 : decode cL_law 2066 = .ok (.lor, 1) := dk_129 ((dQ_L_law_129 2).trans dk_j2)
theorem dL_law_2067 : decode cL_law 2067 = .ok (.invokevirtual 303, 3) := dk_182 ((dQ_L_law_129 3).trans dk_j3) ((dQ_L_law_129 4).trans dk_j4) ((dQ_L_law_129 5).trans dk_j5) dk_vu2_1_47
theorem dL_law_2070 : decode cL_law 2070 = .ok (.pop, 1) := dk_87 ((dQ_L_law_129 6).trans dk_j6)
theorem dL_law_2071 : decode cL_law 2071 = .ok (.aload_n 2, 1) := dk_44 ((dQ_L_law_129 7).trans dk_j7)
theorem dL_law_2072 : decode cL_law 2072 = .ok (.aload_n 0, 1) := dk_42 ((dQ_L_law_129 8).trans dk_j8)
theorem dL_law_2073 : decode cL_law 2073 = .ok (.iload_n 3, 1) := dk_29 ((dQ_L_law_129 9).trans dk_j9)
theorem dL_law_2074 : decode cL_law 2074 = .ok (.iconst 1, 1) := dk_4 ((dQ_L_law_129 10).trans dk_j10)
theorem dL_law_2075 : decode cL_law 2075 = .ok (.iadd, 1) := dk_96 ((dQ_L_law_129 11).trans dk_j11)
theorem dL_law_2076 : decode cL_law 2076 = .ok (.iaload, 1) := dk_46 ((dQ_L_law_129 12).trans dk_j12)
theorem dL_law_2077 : decode cL_law 2077 = .ok (.aload_n 0, 1) := dk_42 ((dQ_L_law_129 13).trans dk_j13)
theorem dL_law_2078 : decode cL_law 2078 = .ok (.iload_n 3, 1) := dk_29 ((dQ_L_law_129 14).trans dk_j14)
theorem dL_law_2079 : decode cL_law 2079 = .ok (.iconst 2, 1) := dk_5 ((dQ_L_law_129 15).trans dk_j15)
theorem dL_law_2080 : decode cL_law 2080 = .ok (.iadd, 1) := dk_96 ((dQ_L_law_130 0).trans dk_j0)
theorem dL_law_2081 : decode cL_law 2081 = .ok (.iaload, 1) := dk_46 ((dQ_L_law_130 1).trans dk_j1)
theorem dL_law_2082 : decode cL_law 2082 = .ok (.aload_n 0, 1) := dk_42 ((dQ_L_law_130 2).trans dk_j2)
theorem dL_law_2083 : decode cL_law 2083 = .ok (.iload_n 3, 1) := dk_29 ((dQ_L_law_130 3).trans dk_j3)
theorem dL_law_2084 : decode cL_law 2084 = .ok (.iconst 3, 1) := dk_6 ((dQ_L_law_130 4).trans dk_j4)
theorem dL_law_2085 : decode cL_law 2085 = .ok (.iadd, 1) := dk_96 ((dQ_L_law_130 5).trans dk_j5)
theorem dL_law_2086 : decode cL_law 2086 = .ok (.iaload, 1) := dk_46 ((dQ_L_law_130 6).trans dk_j6)
theorem dL_law_2087 : decode cL_law 2087 = .ok (.i2l, 1) := dk_133 ((dQ_L_law_130 7).trans dk_j7)
theorem dL_law_2088 : decode cL_law 2088 = .ok (.bipush 32, 2) := dk_16 ((dQ_L_law_130 8).trans dk_j8) ((dQ_L_law_130 9).trans dk_j9) dk_vs1_32
theorem dL_law_2090 : decode cL_law 2090 = .ok (.lshl, 1) := dk_121 ((dQ_L_law_130 10).trans dk_j10)
theorem dL_law_2091 : decode cL_law 2091 = .ok (.aload_n 0, 1) := dk_42 ((dQ_L_law_130 11).trans dk_j11)
theorem dL_law_2092 : decode cL_law 2092 = .ok (.iload_n 3, 1) := dk_29 ((dQ_L_law_130 12).trans dk_j12)
theorem dL_law_2093 : decode cL_law 2093 = .ok (.iconst 4, 1) := dk_7 ((dQ_L_law_130 13).trans dk_j13)
theorem dL_law_2094 : decode cL_law 2094 = .ok (.iadd, 1) := dk_96 ((dQ_L_law_130 14).trans dk_j14)
theorem dL_law_2095 : decode cL_law 2095 = .ok (.iaload, 1) := dk_46 ((dQ_L_law_130 15).trans dk_j15)
theorem dL_law_2096 : decode cL_law 2096 = .ok (.i2l, 1) := dk_133 ((dQ_L_law_131 0).trans dk_j0)
theorem dL_law_2097 : decode cL_law 2097 = .ok (.ldc2_w 301, 3) := dk_20 ((dQ_L_law_131 1).trans dk_j1) ((dQ_L_law_131 2).trans dk_j2) ((dQ_L_law_131 3).trans dk_j3) dk_vu2_1_45
theorem dL_law_2100 : decode cL_law 2100 = .ok (.land, 1) := dk_127 ((dQ_L_law_131 4).trans dk_j4)
theorem dL_law_2101 : decode cL_law 2101 = .ok (.lor, 1) := dk_129 ((dQ_L_law_131 5).trans dk_j5)
theorem dL_law_2102 : decode cL_law 2102 = .ok (.invokevirtual 307, 3) := dk_182 ((dQ_L_law_131 6).trans dk_j6) ((dQ_L_law_131 7).trans dk_j7) ((dQ_L_law_131 8).trans dk_j8) dk_vu2_1_51
theorem dL_law_2105 : decode cL_law 2105 = .ok (.pop, 1) := dk_87 ((dQ_L_law_131 9).trans dk_j9)
theorem dL_law_2106 : decode cL_law 2106 = .ok (.goto 66, 3) := dk_167 ((dQ_L_law_131 10).trans dk_j10) ((dQ_L_law_131 11).trans dk_j11) ((dQ_L_law_131 12).trans dk_j12) dk_vs2_0_66
theorem dL_law_2109 : decode cL_law 2109 = .ok (.aload_n 1, 1) := dk_43 ((dQ_L_law_131 13).trans dk_j13)
theorem dL_law_2110 : decode cL_law 2110 = .ok (.aload_n 0, 1) := dk_42 ((dQ_L_law_131 14).trans dk_j14)
theorem dL_law_2111 : decode cL_law 2111 = .ok (.iload_n 3, 1) := dk_29 ((dQ_L_law_131 15).trans dk_j15)
theorem dL_law_2112 : decode cL_law 2112 = .ok (.iconst 1, 1) := dk_4 ((dQ_L_law_132 0).trans dk_j0)
theorem dL_law_2113 : decode cL_law 2113 = .ok (.iadd, 1) := dk_96 ((dQ_L_law_132 1).trans dk_j1)
theorem dL_law_2114 : decode cL_law 2114 = .ok (.iaload, 1) := dk_46 ((dQ_L_law_132 2).trans dk_j2)
theorem dL_law_2115 : decode cL_law 2115 = .ok (.aload_n 0, 1) := dk_42 ((dQ_L_law_132 3).trans dk_j3)
theorem dL_law_2116 : decode cL_law 2116 = .ok (.iload_n 3, 1) := dk_29 ((dQ_L_law_132 4).trans dk_j4)
theorem dL_law_2117 : decode cL_law 2117 = .ok (.iconst 2, 1) := dk_5 ((dQ_L_law_132 5).trans dk_j5)
theorem dL_law_2118 : decode cL_law 2118 = .ok (.iadd, 1) := dk_96 ((dQ_L_law_132 6).trans dk_j6)
theorem dL_law_2119 : decode cL_law 2119 = .ok (.iaload, 1) := dk_46 ((dQ_L_law_132 7).trans dk_j7)
theorem dL_law_2120 : decode cL_law 2120 = .ok (.aload_n 0, 1) := dk_42 ((dQ_L_law_132 8).trans dk_j8)
theorem dL_law_2121 : decode cL_law 2121 = .ok (.iload_n 3, 1) := dk_29 ((dQ_L_law_132 9).trans dk_j9)
theorem dL_law_2122 : decode cL_law 2122 = .ok (.iconst 3, 1) := dk_6 ((dQ_L_law_132 10).trans dk_j10)
theorem dL_law_2123 : decode cL_law 2123 = .ok (.iadd, 1) := dk_96 ((dQ_L_law_132 11).trans dk_j11)
theorem dL_law_2124 : decode cL_law 2124 = .ok (.iaload, 1) := dk_46 ((dQ_L_law_132 12).trans dk_j12)
theorem dL_law_2125 : decode cL_law 2125 = .ok (.aload_n 0, 1) := dk_42 ((dQ_L_law_132 13).trans dk_j13)
theorem dL_law_2126 : decode cL_law 2126 = .ok (.iload_n 3, 1) := dk_29 ((dQ_L_law_132 14).trans dk_j14)
theorem dL_law_2127 : decode cL_law 2127 = .ok (.iconst 4, 1) := dk_7 ((dQ_L_law_132 15).trans dk_j15)
theorem dL_law_2128 : decode cL_law 2128 = .ok (.iadd, 1) := dk_96 ((dQ_L_law_133 0).trans dk_j0)
theorem dL_law_2129 : decode cL_law 2129 = .ok (.iaload, 1) := dk_46 ((dQ_L_law_133 1).trans dk_j1)
theorem dL_law_2130 : decode cL_law 2130 = .ok (.aload_n 0, 1) := dk_42 ((dQ_L_law_133 2).trans dk_j2)
theorem dL_law_2131 : decode cL_law 2131 = .ok (.iload_n 3, 1) := dk_29 ((dQ_L_law_133 3).trans dk_j3)
theorem dL_law_2132 : decode cL_law 2132 = .ok (.iconst 5, 1) := dk_8 ((dQ_L_law_133 4).trans dk_j4)
theorem dL_law_2133 : decode cL_law 2133 = .ok (.iadd, 1) := dk_96 ((dQ_L_law_133 5).trans dk_j5)
theorem dL_law_2134 : decode cL_law 2134 = .ok (.iaload, 1) := dk_46 ((dQ_L_law_133 6).trans dk_j6)
theorem dk_vu2_1_52 : (0x01 : UInt8).toNat * 256 + (0x34 : UInt8).toNat = (308 : Nat) := by decide +kernel
theorem dL_law_2135 : decode cL_law 2135 = .ok (.invokevirtual 308, 3) := dk_182 ((dQ_L_law_133 7).trans dk_j7) ((dQ_L_law_133 8).trans dk_j8) ((dQ_L_law_133 9).trans dk_j9) dk_vu2_1_52
theorem dL_law_2138 : decode cL_law 2138 = .ok (.pop, 1) := dk_87 ((dQ_L_law_133 10).trans dk_j10)
theorem dL_law_2139 : decode cL_law 2139 = .ok (.aload_n 2, 1) := dk_44 ((dQ_L_law_133 11).trans dk_j11)
theorem dL_law_2140 : decode cL_law 2140 = .ok (.aload_n 0, 1) := dk_42 ((dQ_L_law_133 12).trans dk_j12)
theorem dL_law_2141 : decode cL_law 2141 = .ok (.iload_n 3, 1) := dk_29 ((dQ_L_law_133 13).trans dk_j13)
theorem dL_law_2142 : decode cL_law 2142 = .ok (.iconst 1, 1) := dk_4 ((dQ_L_law_133 14).trans dk_j14)
theorem dL_law_2143 : decode cL_law 2143 = .ok (.iadd, 1) := dk_96 ((dQ_L_law_133 15).trans dk_j15)
theorem dL_law_2144 : decode cL_law 2144 = .ok (.iaload, 1) := dk_46 ((dQ_L_law_134 0).trans dk_j0)
theorem dL_law_2145 : decode cL_law 2145 = .ok (.aload_n 0, 1) := dk_42 ((dQ_L_law_134 1).trans dk_j1)
theorem dL_law_2146 : decode cL_law 2146 = .ok (.iload_n 3, 1) := dk_29 ((dQ_L_law_134 2).trans dk_j2)
theorem dL_law_2147 : decode cL_law 2147 = .ok (.iconst 2, 1) := dk_5 ((dQ_L_law_134 3).trans dk_j3)
theorem dL_law_2148 : decode cL_law 2148 = .ok (.iadd, 1) := dk_96 ((dQ_L_law_134 4).trans dk_j4)
theorem dL_law_2149 : decode cL_law 2149 = .ok (.iaload, 1) := dk_46 ((dQ_L_law_134 5).trans dk_j5)
theorem dL_law_2150 : decode cL_law 2150 = .ok (.aload_n 0, 1) := dk_42 ((dQ_L_law_134 6).trans dk_j6)
theorem dL_law_2151 : decode cL_law 2151 = .ok (.iload_n 3, 1) := dk_29 ((dQ_L_law_134 7).trans dk_j7)
theorem dL_law_2152 : decode cL_law 2152 = .ok (.iconst 3, 1) := dk_6 ((dQ_L_law_134 8).trans dk_j8)
theorem dL_law_2153 : decode cL_law 2153 = .ok (.iadd, 1) := dk_96 ((dQ_L_law_134 9).trans dk_j9)
theorem dL_law_2154 : decode cL_law 2154 = .ok (.iaload, 1) := dk_46 ((dQ_L_law_134 10).trans dk_j10)
theorem dL_law_2155 : decode cL_law 2155 = .ok (.aload_n 0, 1) := dk_42 ((dQ_L_law_134 11).trans dk_j11)
theorem dL_law_2156 : decode cL_law 2156 = .ok (.iload_n 3, 1) := dk_29 ((dQ_L_law_134 12).trans dk_j12)
theorem dL_law_2157 : decode cL_law 2157 = .ok (.iconst 4, 1) := dk_7 ((dQ_L_law_134 13).trans dk_j13)
theorem dL_law_2158 : decode cL_law 2158 = .ok (.iadd, 1) := dk_96 ((dQ_L_law_134 14).trans dk_j14)
theorem dL_law_2159 : decode cL_law 2159 = .ok (.iaload, 1) := dk_46 ((dQ_L_law_134 15).trans dk_j15)
theorem dL_law_2160 : decode cL_law 2160 = .ok (.aload_n 0, 1) := dk_42 ((dQ_L_law_135 0).trans dk_j0)
theorem dL_law_2161 : decode cL_law 2161 = .ok (.iload_n 3, 1) := dk_29 ((dQ_L_law_135 1).trans dk_j1)
theorem dL_law_2162 : decode cL_law 2162 = .ok (.iconst 5, 1) := dk_8 ((dQ_L_law_135 2).trans dk_j2)
theorem dL_law_2163 : decode cL_law 2163 = .ok (.iadd, 1) := dk_96 ((dQ_L_law_135 3).trans dk_j3)
theorem dL_law_2164 : decode cL_law 2164 = .ok (.iaload, 1) := dk_46 ((dQ_L_law_135 4).trans dk_j4)
theorem dk_vu2_1_55 : (0x01 : UInt8).toNat * 256 + (0x37 : UInt8).toNat = (311 : Nat) := by decide +kernel
theorem dL_law_2165 : decode cL_law 2165 = .ok (.invokevirtual 311, 3) := dk_182 ((dQ_L_law_135 5).trans dk_j5) ((dQ_L_law_135 6).trans dk_j6) ((dQ_L_law_135 7).trans dk_j7) dk_vu2_1_55
theorem dL_law_2168 : decode cL_law 2168 = .ok (.pop, 1) := dk_87 ((dQ_L_law_135 8).trans dk_j8)
theorem dk_vs2_0_3 : Reader.signed 16 ((0x00 : UInt8).toNat * 256 + (0x03 : UInt8).toNat) = (3 : Int) := by decide +kernel
theorem dL_law_2169 : decode cL_law 2169 = .ok (.goto 3, 3) := dk_167 ((dQ_L_law_135 9).trans dk_j9) ((dQ_L_law_135 10).trans dk_j10) ((dQ_L_law_135 11).trans dk_j11) dk_vs2_0_3
theorem dL_law_2172 : decode cL_law 2172 = .ok (.iinc 3 6, 3) := dk_132 ((dQ_L_law_135 12).trans dk_j12) ((dQ_L_law_135 13).trans dk_j13) ((dQ_L_law_135 14).trans dk_j14) dk_vu1_3 dk_vs1_6
theorem dk_vs2_247_147 : Reader.signed 16 ((0xf7 : UInt8).toNat * 256 + (0x93 : UInt8).toNat) = (-2157 : Int) := by decide +kernel
theorem dL_law_2175 : decode cL_law 2175 = .ok (.goto (-2157), 3) := dk_167 ((dQ_L_law_135 15).trans dk_j15) ((dQ_L_law_136 0).trans dk_j0) ((dQ_L_law_136 1).trans dk_j1) dk_vs2_247_147
theorem dL_law_2178 : decode cL_law 2178 = .ok (.iconst 1, 1) := dk_4 ((dQ_L_law_136 2).trans dk_j2)
theorem dL_law_2179 : decode cL_law 2179 = .ok (.ireturn, 1) := dk_172 ((dQ_L_law_136 3).trans dk_j3)
